/-! taking sectors -/
theorem rMar_up {r : RS} {k : Nat} {x : Int32} : rMar (rSMar r (upd (rMar r) k x)) = upd (rMar r) k x := rfl
theorem RD.mar {d : DS} {r : RS} (h : RD d r) (z : Nat → Int32) : RD d (rSMar r z) := ⟨h.1, h.2.1, h.2.2.1, h.2.2.2⟩
theorem RD.mi {d : DS} {r : RS} {a : Int32} (h : RD (dSMis d a) r) (x : Int32) : RD (dSMis d x) (rSMis r x) := ⟨h.1, h.2.1, rfl, h.2.2.2⟩
section TA
variable {d : DS} {r r' : RS} {f : FS} {w : WS} {m : MS} {B : Nat}
/-- a step of the first loop of the reference -/
theorem R_tk59 {n : Nat} {L : RS → Int32 → Int32 → Int32 → Option (Int32 × RS)} {k c : Nat} (h : RD d r) (hk : k < 40) (b : Bool) : B_Mod_takes_59 L r (nI n) (nI c) (nI k) (if b = true then 1 else 0) = (if b = true then (if xFree d (nI k) = true then L (rSMar (rSMis r (rMis r)) (upd (rMar r) k (4 + nI c))) (nI n) (nI (c + 1)) (nI (k + 1)) else L (rSMar (rSMis r (rMis r + 1)) (upd (rMar r) k 2)) (nI n) (nI c) (nI (k + 1))) else L (rSMar (rSMis r (rMis r)) (upd (rMar r) k 0)) (nI n) (nI c) (nI (k + 1))) := by
  have h134 : ∀ (r : RS) (x5 t2 : Int32), B_Mod_takes_134 L r (nI n) (nI c) (nI k) x5 (nI k) t2 = (if x5 = 0 then L (rSMar r (upd (rMar r) k t2)) (nI n) (nI c) (nI (k + 1)) else L (rSMar r (upd (rMar r) k t2)) (nI n) (nI (c + 1)) (nI (k + 1))) := by
    intro r x5 t2
    unfold B_Mod_takes_134 B_Mod_takes_135 B_Mod_takes_147
    rw [if_pos (inB_nI hk (by decide)), cl_nI (by omega), nI_1, nI_1]
  cases b
  · rw [if_neg (by decide), if_neg (by decide)]
    unfold B_Mod_takes_59 B_Mod_takes_78 B_Mod_takes_79 B_Mod_takes_101 B_Mod_takes_105 B_Mod_takes_108
    rw [if_pos rfl, if_pos rfl, if_pos rfl, if_pos rfl, h134, if_pos rfl]; rfl
  · rw [if_pos rfl, if_pos rfl]
    unfold B_Mod_takes_59
    rw [if_neg (by decide), R_isFree h hk, bnd_some]
    unfold B_Mod_takes_71 B_Mod_takes_78 B_Mod_takes_79 B_Mod_takes_101 B_Mod_takes_105 B_Mod_takes_108
    cases g : xFree d (nI k)
    · rw [if_pos (show (if false = true then (1 : Int32) else 0, ()).1 = 0 from rfl), if_neg (by decide), if_neg (by decide), if_pos rfl, if_neg (by decide), h134, if_pos rfl]; rfl
    · rw [if_neg (show ¬ (if true = true then (1 : Int32) else 0, ()).1 = 0 from (by decide : ¬ (1 : Int32) = 0)), if_neg (by decide), if_pos (by decide), if_neg (by decide), h134, if_neg (by decide), if_pos rfl]; rfl
def TI (d : DS) (mm : Int32) (m : MS) (r : RS) (c : Nat) (r0 : RS) : Prop := RD (dSMis d mm) r ∧ MR d m r ∧ TK d m r c ∧ (∀ q, q < 40 → ¬ rMar r q = 3) ∧ rP r = rP r0 ∧ rKep r = rKep r0
theorem TI.zero {mm : Int32} {c k : Nat} {r0 : RS} (h : TI d mm m r c r0) (hz : rMar r k = 0) : TI d mm m (rSMar (rSMis r (rMis r)) (upd (rMar r) k 0)) c r0 := by
  have e : ∀ q, upd (rMar r) k 0 q = rMar r q := fun q => by
    by_cases e : q = k
    · rw [e, pk_us, hz]
    · rw [pk_un e]
  have em : mm = rMis r := h.1.2.2.1
  have h9 := (h.1.mi (rMis r)).mar (upd (rMar r) k 0)
  rw [← em] at h9 ⊢
  exact ⟨h9, h.2.1.same (fun q _ => e q) rfl, h.2.2.1.same (fun q _ => e q), fun q hq => by show ¬ upd (rMar r) k 0 q = 3; rw [e q]; exact h.2.2.2.1 q hq, h.2.2.2.2.1, h.2.2.2.2.2⟩
theorem TI.miss {mm : Int32} {c k : Nat} {r0 : RS} (h : TI d mm m r c r0) (hk : k < 40) (h4 : ¬ (4 : Int32) ≤ rMar r k) : TI d (mm + 1) (mT m k) (rSMar (rSMis r (rMis r + 1)) (upd (rMar r) k 2)) c r0 := by
  have em : mm = rMis r := h.1.2.2.1
  refine ⟨?_, h.2.1.mark hk (h.2.2.2.1 k hk) (Or.inl rfl) (fun q _ => rfl) rfl rfl rfl rfl, h.2.2.1.miss hk h4 (fun q _ => rfl) rfl rfl, fun q hq => ?_, h.2.2.2.2.1, h.2.2.2.2.2⟩
  · rw [em]; exact (h.1.mi (rMis r + 1)).mar _
  · show ¬ upd (rMar r) k 2 q = 3
    by_cases e : q = k
    · rw [e, pk_us]; decide
    · rw [pk_un e]; exact h.2.2.2.1 q hq
theorem TI.take {mm : Int32} {c k : Nat} {r0 : RS} (h : TI d mm m r c r0) (hc : c < 2) (hk : k < 40) (hF : xFree d (nI k) = true) (h4 : ¬ (4 : Int32) ≤ rMar r k) (h1 : RD (dSMis d mm) r') (h2 : rMar r' = upd (rMar r) k (4 + nI c)) (h3 : rMap r' = rMap r) (h5 : rP r' = rP r) (h6 : rKep r' = rKep r) : TI d mm (if ¬ mFir m = -1 then mSSnd (mT m k) (nI k) else mSFir (mT m k) (nI k)) r' (c + 1) r0 := by
  have hx : (4 + nI c : Int32) = 2 ∨ (4 + nI c : Int32) = 4 ∨ (4 + nI c : Int32) = 5 := by
    rcases (show c = 0 ∨ c = 1 by omega) with rfl | rfl
    · exact Or.inr (Or.inl rfl)
    · exact Or.inr (Or.inr rfl)
  have g : ∀ q, q < 40 → rMar r' q = upd (rMar r) k (4 + nI c) q := fun q _ => by rw [h2]
  refine ⟨h1, ?_, h.2.2.1.take hc hk hF h4 g, fun q hq => ?_, h5.trans h.2.2.2.2.1, h6.trans h.2.2.2.2.2⟩
  · by_cases e : mFir m = -1
    · rw [if_neg (not_not_intro e)]
      exact h.2.1.mark hk (h.2.2.2.1 k hk) hx g h3 rfl rfl rfl
    · rw [if_pos e]
      exact h.2.1.mark hk (h.2.2.2.1 k hk) hx g h3 rfl rfl rfl
  · rw [g q hq]
    by_cases e : q = k
    · rw [e, pk_us]
      rcases hx with e | e | e <;> rw [e] <;> decide
    · rw [pk_un e]; exact h.2.2.2.1 q hq
theorem R_takeL1 {n p : Nat} {r0 : RS} (I : IV B d) (hn : n ≤ 2) (hp : p < 40) (hu : dUnr d p = 0) : ∀ j k, k + j = 40 → ∀ n1 n2, j < n1 → j < n2 → ∀ mm m r c, TI d mm m r c r0 → mPag m = nI p → rMap r = nI p → (∀ q, k ≤ q → q < 40 → rMar r q = 0) →
    ∃ mm' m' r' c', L_Map_take_6 n1 (dSMis d mm) f w m (nI n) (nI k) = B_Map_take_39 (dSMis d mm') f w m' (nI n) ∧ L_Mod_takes_8 n2 r (nI n) (nI c) (nI k) = B_Mod_takes_154 r' (nI n) (nI c') ∧ TI d mm' m' r' c' r0 := by
  intro j
  induction j with
  | zero =>
    intro k hk n1 n2 h1 h2 mm m r c hT hm hr hz
    obtain ⟨a, rfl⟩ : ∃ a, n1 = a + 1 := ⟨n1 - 1, by omega⟩
    obtain ⟨b, rfl⟩ : ∃ b, n2 = b + 1 := ⟨n2 - 1, by omega⟩
    obtain rfl : k = 40 := by omega
    rw [L_Map_take_6, L_Mod_takes_8, if_pos (gy 40 (N := 40)), if_pos (gy 40 (N := 40))]
    exact ⟨mm, m, r, c, rfl, rfl, hT⟩
  | succ j ih =>
    intro k hk n1 n2 h1 h2 mm m r c hT hm hr hz
    obtain ⟨a, rfl⟩ : ∃ a, n1 = a + 1 := ⟨n1 - 1, by omega⟩
    obtain ⟨b, rfl⟩ : ∃ b, n2 = b + 1 := ⟨n2 - 1, by omega⟩
    have hk40 : k < 40 := by omega
    have hc2 := hT.2.2.1.le
    rw [L_Map_take_6, L_Mod_takes_8, if_neg (gn 40 hk40), if_neg (gn 40 hk40), C_count hT.2.2.1]
    by_cases hnc : nI n ≤ nI c
    · rw [if_pos hnc, if_pos hnc]
      exact ⟨mm, m, r, c, rfl, rfl, hT⟩
    · rw [if_neg hnc, if_neg hnc, hr, if_neg (nI_pos (by omega))]
      have hcn : c < n := by
        by_cases q : n ≤ c
        · exact absurd (nI_le q (by omega)) hnc
        · omega
      have hz0 := hz k (Nat.le_refl _) hk40
      have h40 : ¬ (4 : Int32) ≤ rMar r k := by rw [hz0]; decide
      have hz1 : ∀ x q, k + 1 ≤ q → q < 40 → upd (rMar r) k x q = 0 := fun x q q1 q2 => by rw [pk_un (by omega)]; exact hz q (by omega) q2
      obtain ⟨i1, i2, i3⟩ := R_hint (d := dSMis d mm) (r := r) hT.1 I hp hk40
      rw [i1, if_pos (inB_nI i2 (by decide)), cl_nI (by omega), C_hint (d := dSMis d mm) I hp hu hk40 hm]
      unfold B_Map_take_33
      cases g : hnt (dSMis d mm) p k
      · rw [if_pos (fun q => absurd (i3.mp q) (by rw [g]; decide)), if_pos (show ((if false = true then (1 : Int32) else 0), ()).1 = 0 from rfl), nI_1]
        have e := R_tk59 (n := n) (L := L_Mod_takes_8 b) (c := c) hT.1 hk40 false
        rw [show (if false = true then (1 : Int32) else 0) = 0 from rfl] at e
        rw [e, if_neg (by decide)]
        exact ih (k + 1) (by omega) a b (by omega) (by omega) mm m _ c (hT.zero hz0) hm hr (hz1 0)
      · rw [if_neg (not_not_intro (i3.mpr g)), if_neg (show ¬ ((if true = true then (1 : Int32) else 0), ()).1 = 0 from (by decide : ¬ (1 : Int32) = 0)), nI_1]
        have e := R_tk59 (n := n) (L := L_Mod_takes_8 b) (c := c) hT.1 hk40 true
        rw [show (if true = true then (1 : Int32) else 0) = 1 from rfl, if_pos rfl] at e
        rw [e, C_tom]
        cases gF : xFree (dSMis d mm) (nI k)
        · rw [if_neg (by decide), if_neg (by decide)]
          exact ih (k + 1) (by omega) a b (by omega) (by omega) (mm + 1) (mT m k) _ c (hT.miss hk40 h40) hm hr (hz1 2)
        · rw [if_pos rfl, if_pos rfl]
          refine ih (k + 1) (by omega) a b (by omega) (by omega) mm _ _ (c + 1) (hT.take (by omega) hk40 gF h40 ?_ rfl rfl rfl rfl) ?_ hr (hz1 _)
          · have em : mm = rMis r := hT.1.2.2.1
            have h9 := (hT.1.mi (rMis r)).mar (upd (rMar r) k (4 + nI c))
            rw [← em] at h9 ⊢
            exact h9
          · show mPag (if ¬ mFir m = -1 then mSSnd (mT m k) (nI k) else mSFir (mT m k) (nI k)) = nI p
            by_cases e2 : mFir m = -1
            · rw [if_neg (not_not_intro e2)]; exact hm
            · rw [if_pos e2]; exact hm
theorem TK.fir {c k : Nat} (h : TK d m r c) (hc : c < 2) (hk : k < 40) : (nI k = mFir m ↔ (4 : Int32) ≤ rMar r k) := by
  rcases h with ⟨rfl, a1, a2, a3⟩ | ⟨rfl, a, a1, a2, a3, a4, a5, a6⟩ | ⟨rfl, -⟩
  · rw [a1]; exact ⟨fun q => absurd q (nI_m1 (by omega)), fun q => absurd q (a3 k hk)⟩
  · rw [a3]
    by_cases e : k = a
    · rw [e, a5]; exact ⟨fun _ => by decide, fun _ => rfl⟩
    · exact ⟨fun q => absurd ((nI_eq (by omega) (by omega)).mp q) e, fun q => absurd q (a6 k hk e)⟩
  · omega
theorem R_takeL2 {n : Nat} {r0 : RS} (hn : n ≤ 2) : ∀ j k, k + j = 40 → ∀ n1 n2, j < n1 → j < n2 → ∀ mm m r c, TI d mm m r c r0 →
    ∃ m' r' c', L_Map_take_41 n1 (dSMis d mm) f w m (nI n) (nI k) = B_Map_take_85 (dSMis d mm) f w m' (nI n) ∧ L_Mod_takes_156 n2 r (nI n) (nI c) (nI k) = B_Mod_takes_204 r' (nI n) (nI c') ∧ TI d mm m' r' c' r0 := by
  intro j
  induction j with
  | zero =>
    intro k hk n1 n2 h1 h2 mm m r c hT
    obtain ⟨a, rfl⟩ : ∃ a, n1 = a + 1 := ⟨n1 - 1, by omega⟩
    obtain ⟨b, rfl⟩ : ∃ b, n2 = b + 1 := ⟨n2 - 1, by omega⟩
    obtain rfl : k = 40 := by omega
    rw [L_Map_take_41, L_Mod_takes_156, if_pos (gy 40 (N := 40)), if_pos (gy 40 (N := 40))]
    exact ⟨m, r, c, rfl, rfl, hT⟩
  | succ j ih =>
    intro k hk n1 n2 h1 h2 mm m r c hT
    obtain ⟨a, rfl⟩ : ∃ a, n1 = a + 1 := ⟨n1 - 1, by omega⟩
    obtain ⟨b, rfl⟩ : ∃ b, n2 = b + 1 := ⟨n2 - 1, by omega⟩
    have hk40 : k < 40 := by omega
    have hc2 := hT.2.2.1.le
    rw [L_Map_take_41, L_Mod_takes_156, if_neg (gn 40 hk40), if_neg (gn 40 hk40), C_count hT.2.2.1]
    by_cases hnc : nI n ≤ nI c
    · rw [if_pos hnc, if_pos hnc]
      exact ⟨m, r, c, rfl, rfl, hT⟩
    · rw [if_neg hnc, if_neg hnc, R_isFree hT.1 hk40, bnd_some, isFree_v]
      have hcn : c < n := by
        by_cases q : n ≤ c
        · exact absurd (nI_le q (by omega)) hnc
        · omega
      unfold B_Map_take_79 B_Mod_takes_172 B_Mod_takes_194 B_Mod_takes_198
      rw [if_pos (inB_nI hk40 (by decide)), if_pos (inB_nI hk40 (by decide)), cl_nI (by omega), nI_1, nI_1]
      have hfi := hT.2.2.1.fir (k := k) (by omega) hk40
      cases gF : xFree (dSMis d mm) (nI k)
      · rw [if_pos (show ((if false = true then (1 : Int32) else 0), ()).1 = 0 from rfl), if_pos (show ((if false = true then (1 : Int32) else 0), ()).1 = 0 from rfl)]
        exact ih (k + 1) (by omega) a b (by omega) (by omega) mm m r c hT
      · rw [if_neg (show ¬ ((if true = true then (1 : Int32) else 0), ()).1 = 0 from (by decide : ¬ (1 : Int32) = 0)), if_neg (show ¬ ((if true = true then (1 : Int32) else 0), ()).1 = 0 from (by decide : ¬ (1 : Int32) = 0))]
        by_cases e : nI k = mFir m
        · rw [if_pos e, if_pos (hfi.mp e)]
          exact ih (k + 1) (by omega) a b (by omega) (by omega) mm m r c hT
        · rw [if_neg e, if_neg (fun q => e (hfi.mpr q)), C_tom, gF, if_pos rfl]
          exact ih (k + 1) (by omega) a b (by omega) (by omega) mm _ _ (c + 1) (hT.take (by omega) hk40 gF (fun q => e (hfi.mpr q)) (hT.1.mar _) rfl rfl rfl rfl)
theorem R_takes {n : Nat} (h : RD d r) (hf : RF f r) (I : IV B d) (J : IF f) (hn : n = 1 ∨ n = 2) : ∃ mm f' m' r' c, f_Map_take d f w m (nI n) = some (if c = n then 1 else 0, (dSMis d mm, f', m')) ∧ f_Mod_takes r (nI n) = some (if c = n then 1 else 0, r') ∧ RD (dSMis d mm) r' ∧ RF f' r' ∧ IF f' ∧ MR d m' r' ∧ TK d m' r' c ∧ rP r' = rP r := by
  obtain ⟨m1, mm, f', r1, e1, e2, e3, e4, e5, e6, e7, e8, e9, e10⟩ := R_findMap (w := w) (m := m) h hf I J
  unfold f_Map_take f_Mod_takes B_Map_take_4 B_Mod_takes_4
  rw [e1, e2, bnd_some, bnd_some]
  have hT : TI d mm m1 r1 0 r1 := ⟨e3, e6, e7, fun q hq => by rw [e8 q hq]; decide, rfl, rfl⟩
  have hn2 : n ≤ 2 := by omega
  -- the second loop and the end
  have hE : ∀ mm2 m2 r2 c2, TI d mm2 m2 r2 c2 r1 → ∃ mm f'' m' r' c, B_Map_take_39 (dSMis d mm2) f' w m2 (nI n) = some (if c = n then 1 else 0, (dSMis d mm, f'', m')) ∧ B_Mod_takes_154 r2 (nI n) (nI c2) = some (if c = n then 1 else 0, r') ∧ RD (dSMis d mm) r' ∧ RF f'' r' ∧ IF f'' ∧ MR d m' r' ∧ TK d m' r' c ∧ rP r' = rP r := by
    intro mm2 m2 r2 c2 hT2
    unfold B_Map_take_39 B_Mod_takes_154
    obtain ⟨m3, r3, c3, g1, g2, g3⟩ := R_takeL2 (f := f') (w := w) (n := n) hn2 40 0 rfl 100 1000 (by decide) (by decide) mm2 m2 r2 c2 hT2
    rw [show (0 : Int32) = nI 0 from rfl, g1, g2]
    unfold B_Map_take_85 B_Mod_takes_204
    have hc3 := g3.2.2.1.le
    refine ⟨mm2, f', m3, r3, c3, ?_, ?_, g3.1, fun t t1 t2 => by rw [g3.2.2.2.2.2]; exact e4 t t1 t2, e5, g3.2.1, g3.2.2.1, g3.2.2.2.2.1.trans e10⟩
    · rw [C_count g3.2.2.1]
      by_cases q : c3 = n
      · rw [q, if_neg (not_not_intro rfl), if_pos rfl]
      · rw [if_pos (fun z => q ((nI_eq (by omega) (by omega)).mp z)), if_neg q]; rfl
    · by_cases q : c3 = n
      · rw [q, if_neg (not_not_intro rfl), if_pos rfl]
      · rw [if_pos (fun z => q ((nI_eq (by omega) (by omega)).mp z)), if_neg q]; rfl
  have n0 : ¬ nI n ≤ nI 0 := nI_ge (by omega) (by omega)
  rcases e6.1 with ⟨p1, p2⟩ | ⟨p, p0, p1, p2, p3⟩
  · have c1 : ∃ _ : Unit, L_Map_take_6 100 (dSMis d mm) f' w m1 (nI n) (nI 0) = B_Map_take_39 (dSMis d mm) f' w m1 (nI n) ∧ True := by
      refine lp_ex (Lf := fun k (_ : Unit) x => L_Map_take_6 k (dSMis d mm) f' w m1 (nI n) x) (fin := fun _ => B_Map_take_39 (dSMis d mm) f' w m1 (nI n)) (N := 40) (fun _ _ => True) (fun k s i hi _ => ⟨(), ?_, trivial⟩) (fun k s _ => ?_) 40 0 () 100 rfl (by decide) trivial
      · show L_Map_take_6 (k + 1) _ _ _ _ _ _ = _
        rw [L_Map_take_6, if_neg (gn 40 hi), C_count e7, if_neg n0]
        unfold f_Map_hintsFree B_Map_hintsFree_38 B_Map_take_33
        rw [if_pos p1, if_pos (show ((0 : Int32), ()).1 = 0 from rfl), nI_1]
      · show L_Map_take_6 (k + 1) _ _ _ _ _ _ = _
        rw [L_Map_take_6, if_pos (gy 40 (N := 40))]
    obtain ⟨-, c1, -⟩ := c1
    have c2 : L_Mod_takes_8 1000 r1 (nI n) (nI 0) (nI 0) = B_Mod_takes_154 r1 (nI n) (nI 0) := by
      rw [L_Mod_takes_8, if_neg (gn (N := 40) (i := 0) 40 (by decide)), if_neg n0, if_pos (by rw [p2]; decide)]
    rw [show (0 : Int32) = nI 0 from rfl, c1, c2]
    exact hE mm m1 r1 0 hT
  · obtain ⟨mm2, m2, r2, c2, g1, g2, g3⟩ := R_takeL1 (f := f') (w := w) (n := n) I hn2 p0 p1 40 0 rfl 100 1000 (by decide) (by decide) mm m1 r1 0 hT p2 p3 (fun q _ hq => e8 q hq)
    rw [show (0 : Int32) = nI 0 from rfl, g1, g2]
    exact hE mm2 m2 r2 c2 g3
theorem R_taken {a : Nat} {x y : Int32} (ha : a < 40) (hy : y = 4 + x) (h1 : rMar r a = y) (h2 : ∀ q, q < 40 → q ≠ a → ¬ rMar r q = y) : f_Mod_taken r x = some (nI a, ()) := by
  have h := lp_ex (Lf := fun k (z : Int32) y => L_Mod_taken_4 k r x z y) (fin := fun z => some (z, ())) (N := 40) (fun i z => z = if a < i then nI a else -1) (fun k s i hi hP => ?_) (fun k s _ => ?_) 40 0 (-1) 1000 rfl (by decide) (by rw [if_neg (by omega)])
  · obtain ⟨z, z1, z2⟩ := h
    rw [if_pos ha] at z2
    unfold f_Mod_taken
    rw [show (0 : Int32) = nI 0 from rfl, ← z2]; exact z1
  · show ∃ s', L_Mod_taken_4 (k + 1) r x s (nI i) = _ ∧ _
    rw [L_Mod_taken_4, if_neg (gn 40 hi), if_pos (inB_nI hi (by decide)), cl_nI (by omega)]
    unfold B_Mod_taken_27
    rw [nI_1]
    by_cases e : i = a
    · subst e
      rw [if_neg (not_not_intro (h1.trans hy))]
      exact ⟨nI i, rfl, by rw [if_pos (by omega)]⟩
    · rw [if_pos (by rw [← hy]; exact h2 i hi e)]
      refine ⟨s, rfl, hP.trans ?_⟩
      by_cases q : a < i
      · rw [if_pos q, if_pos (by omega)]
      · rw [if_neg q, if_neg (by omega)]
  · show L_Mod_taken_4 (k + 1) r x s (nI 40) = _
    rw [L_Mod_taken_4, if_pos (gy 40 (N := 40))]
end TA
