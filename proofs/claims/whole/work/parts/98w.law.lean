/-! the law: every call is alike, so it answers 1 -/
theorem IV.mono1 {B : Nat} {d : DS} (h : IV B d) (hB : B + 1 ≤ 100000) : IV (B + 1) d := by
  refine ⟨hB, fun i hi => ⟨(h.2 i hi).1, fun k k1 k2 k3 => ?_, (h.2 i hi).2.2⟩⟩
  obtain ⟨h1, h2⟩ := (h.2 i hi).2.1 k k1 k2 k3
  refine ⟨h1, Nat.le_trans h2 ?_⟩
  unfold mxK
  split <;> omega
theorem RL.mono1 {B : Nat} {d : DS} {f : FS} {s : SS} {r : RS} (h : RL B d f s r) (hB : B + 1 ≤ 100000) : RL (B + 1) d f s r := ⟨h.1, h.2.1, h.2.2.1.mono1 hB, h.2.2.2⟩
theorem S_lengthL {B : Nat} {d : DS} {f : FS} {w : WS} {m : MS} {s : SS} {g : GS} {r : RS} (h : RL B d f s r) (x : Int32) : ∃ q d' f' r' a, f_LV_length d f w m s g x = some (q, (d', f')) ∧ f_Mod_length r x = some (a, r') ∧ RL B d' f' s r' ∧ ans q a (rThr r') [(1, 1), (2, 2), (4, 3)] := by
  obtain ⟨h, hf, I, J, X, Y⟩ := h
  unfold f_LV_length f_Mod_length
  rcases pw (f := f) (w := w) (m := m) (s := s) (g := g) h with ⟨p1, p2⟩ | ⟨p1, p2⟩
  · rw [p1]
    show ∃ q d' f' r' a, B_LV_length_4 d f w m s g x = _ ∧ _
    obtain ⟨v, mm, k, f', e1, e2, e3, e4, e5⟩ := R_begin (w := w) (m := m) (s := s) (g := g) h hf J p2 x
    unfold B_LV_length_4
    rw [e1, e2, bnd_some, bnd_some]
    unfold B_Mod_length_5
    rcases e5 with rfl | ⟨i, hi, rfl, l1, l2, l3, -⟩
    · exact ⟨.inl 2, dSMis d mm, f', _, _, rfl, rfl, ⟨h.mis mm k, e3, I, e4, X, Y⟩, rfl⟩
    · rw [if_neg (nI_m1 (by omega)), if_neg (nI_m1 (by omega))]
      obtain ⟨v, m2, g1, g2, g3⟩ := R_last (f := f') (r := rSFau (rSMis (rSKep (rSThr r 0) k) mm) 0) (h.mis mm k) I hi l1 l3
      show ∃ q d' f'' r' a, B_LV_length_9 (dSMis d mm) f' w m s g (nI i) = _ ∧ (if ¬ (0 : Int32) = 0 then _ else _) = _ ∧ _
      unfold B_LV_length_9
      rw [if_neg (not_not_intro rfl), g1, g2, bnd_some, bnd_some]
      obtain ⟨q, r', a, u1, u2, u3, u4, u5, u6⟩ := S_length_22 (d := dSMis d m2) (f := f') (w := w) (m := m) (s := s) (g := g) (v := v) (r := rSFau (rSMis (rSFau (rSMis (rSKep (rSThr r 0) k) mm) 0) m2) (if v = -1 then 4 else 0)) (h.mis m2 k) e3 (by
        rcases g3 with rfl | ⟨j, rfl, j1, j2, -⟩
        · exact Or.inl ⟨rfl, rfl⟩
        · exact Or.inr ⟨j, rfl, j1, j2, if_neg (nI_m1 (by omega))⟩)
      refine ⟨q, _, _, r', a, u1, u2, ⟨u3, u4, I, e4, X, fun k5 hk5 => ?_⟩, u6⟩
      rw [u5]
      exact Y k5 hk5
  · rw [p1, begin0 p2, bnd_some]
    exact ⟨.inl 1, d, f, _, _, rfl, rfl, ⟨h, hf, I, J, X, Y⟩, rfl⟩
theorem ctab_ne : ∀ (T : List (Nat × Int32)) (e : Nat) (th : Int32), (∀ p, p ∈ T → ¬ p.2 = 0) → ctab T e = some th → ¬ th = 0 := by
  intro T
  induction T with
  | nil => intro e th _ h; cases h
  | cons q t ih =>
    intro e th hT h
    unfold ctab at h
    by_cases he : e = q.1
    · rw [if_pos he] at h
      cases h
      exact hT q List.mem_cons_self
    · rw [if_neg he] at h
      exact ih e th (fun p hp => hT p (List.mem_cons_of_mem _ hp)) h
theorem in01 : inB 0 1 := ⟨by decide, by decide⟩
theorem lawI {α β : Type} {q : Nat ⊕ Int32} (z : α) {T : List (Nat × Int32)} (F : α → OS → β) {a th : Int32} (o : OS) (h : ans q a th T) (hT : ∀ p, p ∈ T → ¬ p.2 = 0) : ∃ o', thM (q, z) (fun x z => bnd (ctab T x) (fun c => some (c, F z o))) (fun v z => if inB 0 1 then some (0, F z (oSOut o (vp_updL (oOut o) (0 : Int32).toNatClampNeg v.toInt64))) else none) = some (th, F z o') ∧ (¬ th = 0 ∨ lg_cmp (oOut o' (0 : Int32).toNatClampNeg) a.toInt64 = 0) := by
  cases q with
  | inl e =>
    have h1 : ctab T e = some th := h
    refine ⟨o, ?_, Or.inl (ctab_ne T e th hT h1)⟩
    show bnd (ctab T e) _ = _
    rw [h1]; rfl
  | inr v =>
    obtain ⟨h1, h2⟩ : th = 0 ∧ a = v := h
    refine ⟨oSOut o (vp_updL (oOut o) (0 : Int32).toNatClampNeg v.toInt64), ?_, Or.inr ((lg_cmp_eq _ _).mpr ?_)⟩
    · rw [h1]
      rfl
    · show (vp_updL (oOut o) (0 : Int32).toNatClampNeg v.toInt64) (0 : Int32).toNatClampNeg = a.toInt64
      rw [h2]
      unfold vp_updL
      exact if_pos rfl
theorem lawU {α β : Type} {q : Nat ⊕ Unit} (z : α) {T : List (Nat × Int32)} (F : α → β) {th : Int32} (h : ansU q th T) : thM (q, z) (fun x z => bnd (ctab T x) (fun c => some (c, F z))) (fun _ z => some ((0 : Int32), F z)) = some (th, F z) := by
  cases q with
  | inl e =>
    have h1 : ctab T e = some th := h
    show bnd (ctab T e) _ = _
    rw [h1]; rfl
  | inr v =>
    have h1 : th = 0 := h
    show some ((0 : Int32), F z) = _
    rw [h1]
theorem fin3 {α : Type} {th x5 t0 : Int32} {o : OS} {A F : Option α} (h : th = x5) (h2 : ¬ x5 = 0 ∨ lg_cmp (oOut o (0 : Int32).toNatClampNeg) t0.toInt64 = 0) : (if th = x5 then (if ¬ x5 = 0 then A else (if inB 0 1 then (if (lg_cmp (oOut o (0 : Int32).toNatClampNeg) t0.toInt64) = 0 then A else F) else none)) else F) = A := by
  rw [if_pos h]
  by_cases h0 : x5 = 0
  · rw [if_neg (not_not_intro h0), if_pos in01, if_pos (h2.resolve_left (not_not_intro h0))]
  · rw [if_pos h0]
abbrev LawO : Type := Option (Int32 × (DS × FS × WS × MS × SS × GS × RS × OS))
abbrev LawK : Type := DS → FS → WS → MS → SS → GS → RS → OS → Int32 → LawO
def LawG (B : Nat) (k : LawK) (x4 : Int32) : Prop := ∀ d f w m s g r o, RL B d f s r → ∃ z, k d f w m s g r o (x4 + 4) = some (1, z)
section LW
variable {sc : Nat × (Nat → Int32)} {k : LawK} {d : DS} {f : FS} {w : WS} {m : MS} {s : SS} {g : GS} {r : RS} {o : OS} {x4 : Int32} {B : Nat}
theorem K_open (h : RL B d f s r) (hB : B + 1 ≤ 100000) (b1 : inB (x4 + 1) sc.1) (b2 : inB (x4 + 2) sc.1) (K : LawG (B + 1) k x4) : ∃ z, B_Law_law_216 sc k d f w m s g r o x4 = some (1, z) := by
  obtain ⟨q, d', f', w', r', a, e1, e2, e3, e4⟩ := S_open (w := w) (m := m) (g := g) h (sc.2 (x4 + 1).toNatClampNeg) (sc.2 (x4 + 2).toNatClampNeg)
  obtain ⟨o', g1, g2⟩ := lawI (d', f', w') (fun z o => (z.1, z.2.1, z.2.2, o)) o e4 (by decide)
  have e5 : f_Law_open d f w m s g r o (sc.2 (x4 + 1).toNatClampNeg) (sc.2 (x4 + 2).toNatClampNeg) = some (rThr r', (d', f', w', o')) := by
    unfold f_Law_open
    rw [e1, bnd_some]
    exact g1
  unfold B_Law_law_216
  rw [if_pos b1, if_pos b2, e5, bnd_some]
  show ∃ z, B_Law_law_233 sc k d' f' w' m s g r o' x4 (rThr r') = some (1, z)
  unfold B_Law_law_233
  rw [if_pos b1, if_pos b2, e2, bnd_some]
  show ∃ z, B_Law_law_251 sc k d' f' w' m s g r' o' x4 (rThr r') a = some (1, z)
  rw [show B_Law_law_251 sc k d' f' w' m s g r' o' x4 (rThr r') a = k d' f' w' m s g r' o' (x4 + 4) from fin3 rfl g2]
  exact K _ _ _ _ _ _ _ _ (e3.mono1 hB)
theorem K_read (h : RL B d f s r) (hB : B + 1 ≤ 100000) (b1 : inB (x4 + 1) sc.1) (b2 : inB (x4 + 2) sc.1) (K : LawG (B + 1) k x4) : ∃ z, B_Law_law_284 sc k d f w m s g r o x4 = some (1, z) := by
  obtain ⟨q, d', f', r', a, e1, e2, e3, e4⟩ := S_read (w := w) (m := m) (g := g) h (sc.2 (x4 + 1).toNatClampNeg) (sc.2 (x4 + 2).toNatClampNeg)
  obtain ⟨o', g1, g2⟩ := lawI (d', f') (fun z o => (z.1, z.2, o)) o e4 (by decide)
  have e5 : f_Law_read d f w m s g r o (sc.2 (x4 + 1).toNatClampNeg) (sc.2 (x4 + 2).toNatClampNeg) = some (rThr r', (d', f', o')) := by
    unfold f_Law_read
    rw [e1, bnd_some]
    exact g1
  unfold B_Law_law_284
  rw [if_pos b1, if_pos b2, e5, bnd_some]
  show ∃ z, B_Law_law_301 sc k d' f' w m s g r o' x4 (rThr r') = some (1, z)
  unfold B_Law_law_301
  rw [if_pos b1, if_pos b2, e2, bnd_some]
  show ∃ z, B_Law_law_319 sc k d' f' w m s g r' o' x4 (rThr r') a = some (1, z)
  rw [show B_Law_law_319 sc k d' f' w m s g r' o' x4 (rThr r') a = k d' f' w m s g r' o' (x4 + 4) from fin3 rfl g2]
  exact K _ _ _ _ _ _ _ _ (e3.mono1 hB)
theorem K_remove (h : RL B d f s r) (hB : B + 1 ≤ 100000) (b1 : inB (x4 + 1) sc.1) (b2 : inB (x4 + 2) sc.1) (K : LawG (B + 1) k x4) : ∃ z, B_Law_law_460 sc k d f w m s g r o x4 = some (1, z) := by
  obtain ⟨q, d', f', w', m', g', r', a, e1, e2, e3, e4⟩ := S_remove (w := w) (m := m) (g := g) h (sc.2 (x4 + 1).toNatClampNeg) (sc.2 (x4 + 2).toNatClampNeg)
  obtain ⟨o', g1, g2⟩ := lawI (d', f', w', m', g') (fun z o => (z.1, z.2.1, z.2.2.1, z.2.2.2.1, z.2.2.2.2, o)) o e4 (by decide)
  have e5 : f_Law_remove d f w m s g r o (sc.2 (x4 + 1).toNatClampNeg) (sc.2 (x4 + 2).toNatClampNeg) = some (rThr r', (d', f', w', m', g', o')) := by
    unfold f_Law_remove
    rw [e1, bnd_some]
    exact g1
  unfold B_Law_law_460
  rw [if_pos b1, if_pos b2, e5, bnd_some]
  show ∃ z, B_Law_law_477 sc k d' f' w' m' s g' r o' x4 (rThr r') = some (1, z)
  unfold B_Law_law_477
  rw [if_pos b1, if_pos b2, e2, bnd_some]
  show ∃ z, B_Law_law_495 sc k d' f' w' m' s g' r' o' x4 (rThr r') a = some (1, z)
  rw [show B_Law_law_495 sc k d' f' w' m' s g' r' o' x4 (rThr r') a = k d' f' w' m' s g' r' o' (x4 + 4) from fin3 rfl g2]
  exact K _ _ _ _ _ _ _ _ (e3.mono1 hB)
theorem K_length (h : RL B d f s r) (hB : B + 1 ≤ 100000) (b1 : inB (x4 + 1) sc.1) (K : LawG (B + 1) k x4) : ∃ z, B_Law_law_528 sc k d f w m s g r o x4 = some (1, z) := by
  obtain ⟨q, d', f', r', a, e1, e2, e3, e4⟩ := S_lengthL (w := w) (m := m) (g := g) h (sc.2 (x4 + 1).toNatClampNeg)
  obtain ⟨o', g1, g2⟩ := lawI (d', f') (fun z o => (z.1, z.2, o)) o e4 (by decide)
  have e5 : f_Law_length d f w m s g r o (sc.2 (x4 + 1).toNatClampNeg) = some (rThr r', (d', f', o')) := by
    unfold f_Law_length
    rw [e1, bnd_some]
    exact g1
  unfold B_Law_law_528
  rw [if_pos b1, e5, bnd_some]
  show ∃ z, B_Law_law_539 sc k d' f' w m s g r o' x4 (rThr r') = some (1, z)
  unfold B_Law_law_539
  rw [if_pos b1, e2, bnd_some]
  show ∃ z, B_Law_law_551 sc k d' f' w m s g r' o' x4 (rThr r') a = some (1, z)
  rw [show B_Law_law_551 sc k d' f' w m s g r' o' x4 (rThr r') a = k d' f' w m s g r' o' (x4 + 4) from fin3 rfl g2]
  exact K _ _ _ _ _ _ _ _ (e3.mono1 hB)
theorem K_entry (h : RL B d f s r) (hB : B + 1 ≤ 100000) (b1 : inB (x4 + 1) sc.1) (b2 : inB (x4 + 2) sc.1) (b3 : inB (x4 + 3) sc.1) (K : LawG (B + 1) k x4) : ∃ z, B_Law_law_584 sc k d f w m s g r o x4 = some (1, z) := by
  obtain ⟨q, d', f', w', r', a, e1, e2, e3, e4⟩ := S_entry (w := w) (m := m) (g := g) h (sc.2 (x4 + 1).toNatClampNeg) (sc.2 (x4 + 2).toNatClampNeg) (sc.2 (x4 + 3).toNatClampNeg)
  obtain ⟨o', g1, g2⟩ := lawI (d', f', w') (fun z o => (z.1, z.2.1, z.2.2, o)) o e4 (by decide)
  have e5 : f_Law_entry d f w m s g r o (sc.2 (x4 + 1).toNatClampNeg) (sc.2 (x4 + 2).toNatClampNeg) (sc.2 (x4 + 3).toNatClampNeg) = some (rThr r', (d', f', w', o')) := by
    unfold f_Law_entry
    rw [e1, bnd_some]
    exact g1
  unfold B_Law_law_584
  rw [if_pos b1, if_pos b2, if_pos b3, e5, bnd_some]
  show ∃ z, B_Law_law_607 sc k d' f' w' m s g r o' x4 (rThr r') = some (1, z)
  unfold B_Law_law_607
  rw [if_pos b1, if_pos b2, if_pos b3, e2, bnd_some]
  show ∃ z, B_Law_law_631 sc k d' f' w' m s g r' o' x4 (rThr r') a = some (1, z)
  rw [show B_Law_law_631 sc k d' f' w' m s g r' o' x4 (rThr r') a = k d' f' w' m s g r' o' (x4 + 4) from fin3 rfl g2]
  exact K _ _ _ _ _ _ _ _ (e3.mono1 hB)
theorem K_create1 (h : RL B d f s r) (hB : B + 1 ≤ 100000) (b1 : inB (x4 + 1) sc.1) (b2 : inB (x4 + 2) sc.1) (b3 : inB (x4 + 3) sc.1) (K : LawG (B + 1) k x4) (kd : Int32) (hk : ∀ (X Y : LawO), (if (sc.2 (x4 + 3).toNatClampNeg) = 0 then X else Y) = (if kd = 0 then X else Y)) (hkd : kd = 0 ∨ kd = 1) : ∃ z, B_Law_law_120 sc k d f w m s g r o x4 = some (1, z) := by
  obtain ⟨q, d', f', w', m', r', a, e1, e2, e3, e4⟩ := S_create (w := w) (m := m) (g := g) h hB (sc.2 (x4 + 1).toNatClampNeg) (sc.2 (x4 + 2).toNatClampNeg) kd
  obtain ⟨o', g1, g2⟩ := lawI (d', f', w', m') (fun z o => (z.1, z.2.1, z.2.2.1, z.2.2.2, o)) o e4 (by decide)
  have e5 : f_Law_create d f w m s g r o (sc.2 (x4 + 1).toNatClampNeg) (sc.2 (x4 + 2).toNatClampNeg) kd = some (rThr r', (d', f', w', m', o')) := by
    unfold f_Law_create
    rw [e1, bnd_some]
    exact g1
  unfold B_Law_law_120
  rw [if_pos b1, if_pos b2, if_pos b3, hk]
  have e6 : ∃ z, B_Law_law_147 sc k d f w m s g r o x4 (sc.2 (x4 + 1).toNatClampNeg) (sc.2 (x4 + 2).toNatClampNeg) kd = some (1, z) := by
    unfold B_Law_law_147
    rw [e5, bnd_some]
    show ∃ z, B_Law_law_151 sc k d' f' w' m' s g r o' x4 (rThr r') = some (1, z)
    unfold B_Law_law_151
    rw [if_pos b1, if_pos b2, if_pos b3, hk]
    have e7 : ∃ z, B_Law_law_180 sc k d' f' w' m' s g r o' x4 (rThr r') (sc.2 (x4 + 1).toNatClampNeg) (sc.2 (x4 + 2).toNatClampNeg) kd = some (1, z) := by
      unfold B_Law_law_180
      rw [e2, bnd_some]
      show ∃ z, B_Law_law_183 sc k d' f' w' m' s g r' o' x4 (rThr r') a = some (1, z)
      rw [show B_Law_law_183 sc k d' f' w' m' s g r' o' x4 (rThr r') a = k d' f' w' m' s g r' o' (x4 + 4) from fin3 rfl g2]
      exact K _ _ _ _ _ _ _ _ e3
    rcases hkd with rfl | rfl
    · rw [if_pos rfl]; exact e7
    · rw [if_neg (by decide)]; exact e7
  rcases hkd with rfl | rfl
  · rw [if_pos rfl]; exact e6
  · rw [if_neg (by decide)]; exact e6
theorem K_create (h : RL B d f s r) (hB : B + 1 ≤ 100000) (b1 : inB (x4 + 1) sc.1) (b2 : inB (x4 + 2) sc.1) (b3 : inB (x4 + 3) sc.1) (K : LawG (B + 1) k x4) : ∃ z, B_Law_law_120 sc k d f w m s g r o x4 = some (1, z) := by
  by_cases h0 : (sc.2 (x4 + 3).toNatClampNeg) = 0
  · exact K_create1 h hB b1 b2 b3 K 0 (fun X Y => by rw [if_pos h0, if_pos rfl]) (Or.inl rfl)
  · exact K_create1 h hB b1 b2 b3 K 1 (fun X Y => by rw [if_neg h0, if_neg (by decide)]) (Or.inr rfl)
theorem K_write (h : RL B d f s r) (hB : B + 1 ≤ 100000) (b1 : inB (x4 + 1) sc.1) (b2 : inB (x4 + 2) sc.1) (b3 : inB (x4 + 3) sc.1) (K : LawG (B + 1) k x4) : ∃ z, B_Law_law_352 sc k d f w m s g r o x4 = some (1, z) := by
  obtain ⟨q, d', f', m', r', e1, e2, e3, e4⟩ := S_write (w := w) (m := m) (g := g) h hB (sc.2 (x4 + 1).toNatClampNeg) (sc.2 (x4 + 2).toNatClampNeg) (sc.2 (x4 + 3).toNatClampNeg)
  have g1 := lawU (d', f', m') (fun z => (z.1, z.2.1, z.2.2)) e4
  have e5 : f_Law_write d f w m s g r o (sc.2 (x4 + 1).toNatClampNeg) (sc.2 (x4 + 2).toNatClampNeg) (sc.2 (x4 + 3).toNatClampNeg) = some (rThr r', (d', f', m')) := by
    unfold f_Law_write
    rw [e1, bnd_some]
    exact g1
  unfold B_Law_law_352
  rw [if_pos b1, if_pos b2, if_pos b3, e5, bnd_some]
  show ∃ z, B_Law_law_374 sc k d' f' w m' s g r o x4 (rThr r') = some (1, z)
  unfold B_Law_law_374
  rw [if_pos b1, if_pos b2, if_pos b3, e2, bnd_some]
  show ∃ z, B_Law_law_398 sc k d' f' w m' s g r' o x4 (rThr r') = some (1, z)
  rw [show B_Law_law_398 sc k d' f' w m' s g r' o x4 (rThr r') = k d' f' w m' s g r' o (x4 + 4) from if_pos rfl]
  exact K _ _ _ _ _ _ _ _ e3
theorem K_shorten (h : RL B d f s r) (hB : B + 1 ≤ 100000) (b1 : inB (x4 + 1) sc.1) (b2 : inB (x4 + 2) sc.1) (K : LawG (B + 1) k x4) : ∃ z, B_Law_law_412 sc k d f w m s g r o x4 = some (1, z) := by
  obtain ⟨q, d', f', m', g', r', e1, e2, e3, e4⟩ := S_shorten (w := w) (m := m) (g := g) h (sc.2 (x4 + 1).toNatClampNeg) (sc.2 (x4 + 2).toNatClampNeg)
  have g1 := lawU (d', f', m', g') (fun z => (z.1, z.2.1, z.2.2.1, z.2.2.2)) e4
  have e5 : f_Law_shorten d f w m s g r o (sc.2 (x4 + 1).toNatClampNeg) (sc.2 (x4 + 2).toNatClampNeg) = some (rThr r', (d', f', m', g')) := by
    unfold f_Law_shorten
    rw [e1, bnd_some]
    exact g1
  unfold B_Law_law_412
  rw [if_pos b1, if_pos b2, e5, bnd_some]
  show ∃ z, B_Law_law_428 sc k d' f' w m' s g' r o x4 (rThr r') = some (1, z)
  unfold B_Law_law_428
  rw [if_pos b1, if_pos b2, e2, bnd_some]
  show ∃ z, B_Law_law_446 sc k d' f' w m' s g' r' o x4 (rThr r') = some (1, z)
  rw [show B_Law_law_446 sc k d' f' w m' s g' r' o x4 (rThr r') = k d' f' w m' s g' r' o (x4 + 4) from if_pos rfl]
  exact K _ _ _ _ _ _ _ _ (e3.mono1 hB)
theorem K_charge (h : RL B d f s r) (hB : B + 1 ≤ 100000) (b1 : inB (x4 + 1) sc.1) (K : LawG (B + 1) k x4) : ∃ z, B_Law_law_677 sc k d f w m s g r o x4 = some (1, z) := by
  obtain ⟨q, d', r', e1, e2, e3, e4⟩ := S_charge (w := w) (m := m) (g := g) h (sc.2 (x4 + 1).toNatClampNeg)
  have g1 := lawU d' (fun z => z) e4
  have e5 : f_Law_charge d f w m s g r o (sc.2 (x4 + 1).toNatClampNeg) = some (rThr r', d') := by
    unfold f_Law_charge
    rw [e1, bnd_some]
    exact g1
  unfold B_Law_law_677
  rw [if_pos b1, e5, bnd_some]
  show ∃ z, B_Law_law_687 sc k d' f w m s g r o x4 (rThr r') = some (1, z)
  unfold B_Law_law_687
  rw [if_pos b1, e2]
  show ∃ z, B_Law_law_699 sc k d' f w m s g r' o x4 (rThr r') = some (1, z)
  rw [show B_Law_law_699 sc k d' f w m s g r' o x4 (rThr r') = k d' f w m s g r' o (x4 + 4) from if_pos rfl]
  exact K _ _ _ _ _ _ _ _ (e3.mono1 hB)
theorem K_scavenge (h : RL B d f s r) (hB : B + 1 ≤ 100000) (hB4 : 40 ≤ B) (K : LawG (B + 1) k x4) : ∃ z, B_Law_law_664 sc k d f w m s g r o x4 = some (1, z) := by
  obtain ⟨v, d', f', s', r', e1, e2, e3⟩ := S_scavenge (w := w) (m := m) (g := g) h hB4
  unfold B_Law_law_664
  rw [e1, bnd_some]
  show ∃ z, B_Law_law_668 sc k d' f' w m s' g r o x4 v = some (1, z)
  unfold B_Law_law_668
  rw [e2, bnd_some]
  show ∃ z, B_Law_law_672 sc k d' f' w m s' g r' o x4 v v = some (1, z)
  rw [show B_Law_law_672 sc k d' f' w m s' g r' o x4 v v = k d' f' w m s' g r' o (x4 + 4) from if_pos rfl]
  exact K _ _ _ _ _ _ _ _ (e3.mono1 hB)
theorem K_spoil (h : RL B d f s r) (hB : B + 1 ≤ 100000) (b1 : inB (x4 + 1) sc.1) (b2 : inB (x4 + 2) sc.1) (b3 : inB (x4 + 3) sc.1) (K : LawG (B + 1) k x4) : ∃ z, B_Law_law_713 sc k d f w m s g r o x4 = some (1, z) := by
  obtain ⟨v, d', r', e1, e2, e3⟩ := S_spoil (w := w) (m := m) (g := g) h (sc.2 (x4 + 1).toNatClampNeg) (sc.2 (x4 + 2).toNatClampNeg) (sc.2 (x4 + 3).toNatClampNeg)
  unfold B_Law_law_713
  rw [if_pos b1, if_pos b2, if_pos b3, e1]
  show ∃ z, B_Law_law_735 sc k d' f w m s g r o x4 v = some (1, z)
  unfold B_Law_law_735
  rw [if_pos b1, if_pos b2, if_pos b3, e2, bnd_some]
  show ∃ z, B_Law_law_757 sc k d' f w m s g r' o x4 v v = some (1, z)
  rw [show B_Law_law_757 sc k d' f w m s g r' o x4 v v = k d' f w m s g r' o (x4 + 4) from if_pos rfl]
  exact K _ _ _ _ _ _ _ _ (e3.mono1 hB)
theorem K_scratch (h : RL B d f s r) (hB : B + 1 ≤ 100000) (b1 : inB (x4 + 1) sc.1) (K : LawG (B + 1) k x4) : ∃ z, B_Law_law_762 sc k d f w m s g r o x4 = some (1, z) := by
  obtain ⟨v, d', r', e1, e2, e3⟩ := S_scratch (w := w) (m := m) (g := g) h (sc.2 (x4 + 1).toNatClampNeg)
  unfold B_Law_law_762
  rw [if_pos b1, e1]
  show ∃ z, B_Law_law_772 sc k d' f w m s g r o x4 v = some (1, z)
  unfold B_Law_law_772
  rw [if_pos b1, e2, bnd_some]
  show ∃ z, B_Law_law_782 sc k d' f w m s g r' o x4 v v = some (1, z)
  rw [show B_Law_law_782 sc k d' f w m s g r' o x4 v v = k d' f w m s g r' o (x4 + 4) from if_pos rfl]
  exact K _ _ _ _ _ _ _ _ (e3.mono1 hB)
theorem K_ghost (h : RL B d f s r) (hB : B + 1 ≤ 100000) (b1 : inB (x4 + 1) sc.1) (b2 : inB (x4 + 2) sc.1) (K : LawG (B + 1) k x4) : ∃ z, B_Law_law_787 sc k d f w m s g r o x4 = some (1, z) := by
  obtain ⟨v, d', r', e1, e2, e3⟩ := S_ghost (w := w) (m := m) (g := g) h (sc.2 (x4 + 1).toNatClampNeg) (sc.2 (x4 + 2).toNatClampNeg)
  unfold B_Law_law_787
  rw [if_pos b1, if_pos b2, e1]
  show ∃ z, B_Law_law_803 sc k d' f w m s g r o x4 v = some (1, z)
  unfold B_Law_law_803
  rw [if_pos b1, if_pos b2, e2, bnd_some]
  show ∃ z, B_Law_law_819 sc k d' f w m s g r' o x4 v v = some (1, z)
  rw [show B_Law_law_819 sc k d' f w m s g r' o x4 v v = k d' f w m s g r' o (x4 + 4) from if_pos rfl]
  exact K _ _ _ _ _ _ _ _ (e3.mono1 hB)
theorem K_label (h : RL B d f s r) (hB : B + 1 ≤ 100000) (b1 : inB (x4 + 1) sc.1) (b2 : inB (x4 + 2) sc.1) (K : LawG (B + 1) k x4) : ∃ z, B_Law_law_824 sc k d f w m s g r o x4 = some (1, z) := by
  obtain ⟨v, e1, e2, e3⟩ := S_label (w := w) (m := m) (g := g) h (sc.2 (x4 + 1).toNatClampNeg) (sc.2 (x4 + 2).toNatClampNeg)
  unfold B_Law_law_824
  rw [if_pos b1, if_pos b2, if_pos b1, if_pos b2, e2, bnd_some, e1]
  show ∃ z, B_Law_law_856 sc k d f w m s g (rSThr r 0) o x4 v v = some (1, z)
  rw [show B_Law_law_856 sc k d f w m s g (rSThr r 0) o x4 v v = k d f w m s g (rSThr r 0) o (x4 + 4) from if_pos rfl]
  exact K _ _ _ _ _ _ _ _ (e3.mono1 hB)
theorem K_data (h : RL B d f s r) (hB : B + 1 ≤ 100000) (b1 : inB (x4 + 1) sc.1) (b2 : inB (x4 + 2) sc.1) (K : LawG (B + 1) k x4) : ∃ z, B_Law_law_861 sc k d f w m s g r o x4 = some (1, z) := by
  obtain ⟨v, e1, e2, e3⟩ := S_data (w := w) (m := m) (g := g) h (sc.2 (x4 + 1).toNatClampNeg) (sc.2 (x4 + 2).toNatClampNeg)
  unfold B_Law_law_861
  rw [if_pos b1, if_pos b2, if_pos b1, if_pos b2, e2, bnd_some, e1]
  show ∃ z, B_Law_law_893 sc k d f w m s g (rSThr r 0) o x4 v v = some (1, z)
  rw [show B_Law_law_893 sc k d f w m s g (rSThr r 0) o x4 v v = k d f w m s g (rSThr r 0) o (x4 + 4) from if_pos rfl]
  exact K _ _ _ _ _ _ _ _ (e3.mono1 hB)
theorem K_state (h : RL B d f s r) (hB : B + 1 ≤ 100000) (b1 : inB (x4 + 1) sc.1) (K : LawG (B + 1) k x4) : ∃ z, B_Law_law_898 sc k d f w m s g r o x4 = some (1, z) := by
  obtain ⟨v, e1, e2, e3⟩ := S_state (w := w) (m := m) (g := g) h (sc.2 (x4 + 1).toNatClampNeg)
  unfold B_Law_law_898
  rw [if_pos b1, if_pos b1, e2, bnd_some, e1]
  show ∃ z, B_Law_law_918 sc k d f w m s g (rSThr r 0) o x4 v v = some (1, z)
  rw [show B_Law_law_918 sc k d f w m s g (rSThr r 0) o x4 v v = k d f w m s g (rSThr r 0) o (x4 + 4) from if_pos rfl]
  exact K _ _ _ _ _ _ _ _ (e3.mono1 hB)
theorem K_report (h : RL B d f s r) (hB : B + 1 ≤ 100000) (b1 : inB (x4 + 1) sc.1) (K : LawG (B + 1) k x4) : ∃ z, B_Law_law_923 sc k d f w m s g r o x4 = some (1, z) := by
  obtain ⟨v, e1, e2, e3⟩ := S_report (w := w) (m := m) (g := g) h (sc.2 (x4 + 1).toNatClampNeg)
  unfold B_Law_law_923
  rw [if_pos b1, e1, bnd_some]
  show ∃ z, B_Law_law_933 sc k d f w m s g r o x4 v = some (1, z)
  unfold B_Law_law_933
  rw [if_pos b1, e2, bnd_some]
  show ∃ z, B_Law_law_943 sc k d f w m s g (rSThr r 0) o x4 v v = some (1, z)
  rw [show B_Law_law_943 sc k d f w m s g (rSThr r 0) o x4 v v = k d f w m s g (rSThr r 0) o (x4 + 4) from if_pos rfl]
  exact K _ _ _ _ _ _ _ _ (e3.mono1 hB)
end LW
theorem lw_end {L i : Nat} (hL : L ≤ 2048) (hi : i ≤ 512) : Int32.ofNat L - 4 < nI (4 * i) ↔ L < 4 * i + 4 := by
  have h1 : (Int32.ofNat L - 4).toInt = (L : Int) - 4 := by
    rw [Int32.toInt_sub, show (Int32.ofNat L).toInt = (L : Int) from nI_toInt (n := L) (by omega), show (4 : Int32).toInt = 4 from rfl]
    exact Int.bmod_eq_of_le (by omega) (by omega)
  rw [Int32.lt_iff_toInt_lt, h1, nI_toInt (by omega)]
  omega
theorem law_run {sc : Nat × (Nat → Int32)} (hL : sc.1 ≤ 2048) : ∀ (n i : Nat) (d : DS) (f : FS) (w : WS) (m : MS) (s : SS) (g : GS) (r : RS) (o : OS), i + n = 600 → i ≤ 512 → RL (40 + i) d f s r → ∃ z, L_Law_law_23 sc n d f w m s g r o (nI (4 * i)) = some (1, z) := by
  intro n
  induction n with
  | zero => intro i d f w m s g r o h1 h2 _; omega
  | succ n ih =>
    intro i d f w m s g r o h1 h2 h
    unfold L_Law_law_23
    by_cases he : Int32.ofNat sc.1 - 4 < nI (4 * i)
    · rw [if_pos he]
      exact ⟨_, rfl⟩
    · rw [if_neg he]
      have h4 : 4 * i + 4 ≤ sc.1 := Nat.not_lt.mp (fun q => he ((lw_end hL h2).mpr q))
      have b0 : inB (nI (4 * i)) sc.1 := inB_nI (by omega) (by omega)
      have b1 : inB (nI (4 * i) + 1) sc.1 := by rw [nI_1]; exact inB_nI (by omega) (by omega)
      have b2 : inB (nI (4 * i) + 2) sc.1 := by rw [show nI (4 * i) + 2 = nI (4 * i + 2) from nI_add _ 2]; exact inB_nI (by omega) (by omega)
      have b3 : inB (nI (4 * i) + 3) sc.1 := by rw [show nI (4 * i) + 3 = nI (4 * i + 3) from nI_add _ 3]; exact inB_nI (by omega) (by omega)
      have K : LawG (40 + i + 1) (L_Law_law_23 sc n) (nI (4 * i)) := by
        intro d f w m s g r o h
        rw [show nI (4 * i) + 4 = nI (4 * (i + 1)) from nI_add _ 4]
        exact ih (i + 1) d f w m s g r o (by omega) (by omega) h
      have hB : 40 + i + 1 ≤ 100000 := by omega
      rw [if_pos b0]
      generalize (sc.2 (nI (4 * i)).toNatClampNeg) &&& 31 = c
      by_cases c0 : c = 0
      · rw [if_pos c0]; exact K_create h hB b1 b2 b3 K
      rw [if_neg c0]
      by_cases c1 : c = 1
      · rw [if_pos c1]; exact K_open h hB b1 b2 K
      rw [if_neg c1]
      by_cases c2 : c = 2
      · rw [if_pos c2]; exact K_read h hB b1 b2 K
      rw [if_neg c2]
      by_cases c3 : c = 3
      · rw [if_pos c3]; exact K_write h hB b1 b2 b3 K
      rw [if_neg c3]
      by_cases c4 : c = 4
      · rw [if_pos c4]; exact K_shorten h hB b1 b2 K
      rw [if_neg c4]
      by_cases c5 : c = 5
      · rw [if_pos c5]; exact K_remove h hB b1 b2 K
      rw [if_neg c5]
      by_cases c6 : c = 6
      · rw [if_pos c6]; exact K_length h hB b1 K
      rw [if_neg c6]
      by_cases c7 : c = 7
      · rw [if_pos c7]; exact K_entry h hB b1 b2 b3 K
      rw [if_neg c7]
      by_cases c8 : c = 8
      · rw [if_pos c8]; exact K_scavenge h hB (by omega) K
      rw [if_neg c8]
      by_cases c9 : c = 9
      · rw [if_pos c9]; exact K_charge h hB b1 K
      rw [if_neg c9]
      by_cases c10 : c = 10
      · rw [if_pos c10]; exact K_spoil h hB b1 b2 b3 K
      rw [if_neg c10]
      by_cases c11 : c = 11
      · rw [if_pos c11]; exact K_scratch h hB b1 K
      rw [if_neg c11]
      by_cases c12 : c = 12
      · rw [if_pos c12]; exact K_ghost h hB b1 b2 K
      rw [if_neg c12]
      by_cases c13 : c = 13
      · rw [if_pos c13]; exact K_label h hB b1 b2 K
      rw [if_neg c13]
      by_cases c14 : c = 14
      · rw [if_pos c14]; exact K_data h hB b1 b2 K
      rw [if_neg c14]
      by_cases c15 : c = 15
      · rw [if_pos c15]; exact K_state h hB b1 K
      rw [if_neg c15]
      by_cases c16 : c = 16
      · rw [if_pos c16]; exact K_report h hB b1 K
      rw [if_neg c16]
      exact K d f w m s g r o (h.mono1 hB)
