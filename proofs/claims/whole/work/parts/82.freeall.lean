/-! the gathered pages freed -/
section FA
variable {d : DS} {r : RS} {f : FS} {w : WS} {m : MS} {s : SS} {g : GS} {B : Nat}
theorem C_gat {q j : Nat} (hq : q < 40) (h : gGat g q = nI j) : f_LV_gatheredPage d f w m s g (nI q) = some (nI j, ()) := by
  unfold f_LV_gatheredPage
  rw [if_neg (nI_pos (by omega)), if_neg (gn 40 hq), if_pos (inB_nI hq (by decide)), cl_nI (by omega), h]
/-- rows that are as they were -/
def KP (d d' : DS) (S : Nat → Prop) : Prop := ∀ y, y < 40 → S y → ∀ k, k < 13 → dCells d' (y * 13 + k) = dCells d (y * 13 + k)
theorem freeDarkL {ρ : Type} {fin : RS → Option ρ} {L : Nat → RS → Int32 → Option ρ} {K : Nat} (hs : ∀ n r k, rRws r = nI K → k < K → L (n + 1) r (nI k) = bnd (f_Mod_free r (rRow r k)) (fun q => L n q.2 (nI (k + 1)))) (he : ∀ n r, rRws r = nI K → L (n + 1) r (nI K) = fin r) {r : RS} (hr : rRws r = nI K) (hd : rFau r = 1) : ∀ t k n, k + t = K → t < n → L n r (nI k) = fin r := by
  intro t
  induction t with
  | zero =>
    intro k n hk hn
    obtain ⟨c, rfl⟩ : ∃ c, n = c + 1 := ⟨n - 1, by omega⟩
    rw [show k = K by omega]; exact he c r hr
  | succ t ih =>
    intro k n hk hn
    obtain ⟨c, rfl⟩ : ∃ c, n = c + 1 := ⟨n - 1, by omega⟩
    rw [hs c r k hr (by omega), free_dark _ hd, bnd_some]
    exact ih (k + 1) c (by omega) (by omega)
theorem rP_row {r r' : RS} (h : rP r' = rP r) : rRow r' = rRow r := congrArg (fun z => z.2.1) h
theorem rP_rws {r r' : RS} (h : rP r' = rP r) : rRws r' = rRws r := congrArg (fun z => z.2.2.2.2.2.2.2.2) h
/-- d0: the disk as the pages were gathered; S: rows that none of them is -/
theorem R_freeAllL {ρ : Type} {fin : RS → Option ρ} {L : Nat → RS → Int32 → Option ρ} {K : Nat} {d0 : DS} {S : Nat → Prop} {row : Nat → Nat} (hK : K ≤ 40) (hs : ∀ n r k, rRws r = nI K → k < K → L (n + 1) r (nI k) = bnd (f_Mod_free r (rRow r k)) (fun q => L n q.2 (nI (k + 1)))) (he : ∀ n r, rRws r = nI K → L (n + 1) r (nI K) = fin r)
    (hrow : ∀ q, q < K → row q < 40 ∧ dUnr d0 (row q) = 0 ∧ row q ≠ 0 ∧ ¬ S (row q) ∧ gGat g q = nI (row q)) : ∀ t k n1 n2, k + t = K → t < n1 → t < n2 → ∀ d m r, RD d r → IV B d → IX d → dUnr d = dUnr d0 → KP d0 d S → MR d m r → mTak m = 0 → rFau r = 0 → rRws r = nI K → (∀ q, q < K → rRow r q = nI (row q)) →
    ∃ d' m' r', RD d' r' ∧ IV B d' ∧ IX d' ∧ dUnr d' = dUnr d0 ∧ rKep r' = rKep r ∧ rRep r' = rRep r ∧ L n2 r (nI k) = fin r' ∧ rRws r' = nI K ∧ ((L_LV_freeGathered_2 n1 d f w m s g (nI K) (nI k) = some (.inl 1, (d', m')) ∧ rFau r' = 1) ∨ (L_LV_freeGathered_2 n1 d f w m s g (nI K) (nI k) = some (.inr (), (d', m')) ∧ rFau r' = 0 ∧ KP d0 d' S ∧ MR d' m' r' ∧ mTak m' = 0)) := by
  intro t
  induction t with
  | zero =>
    intro k n1 n2 hk h1 h2 d m r h I X hu hKP hM ht hfa hr hrw
    obtain ⟨a, rfl⟩ : ∃ a, n1 = a + 1 := ⟨n1 - 1, by omega⟩
    obtain ⟨b, rfl⟩ : ∃ b, n2 = b + 1 := ⟨n2 - 1, by omega⟩
    obtain rfl : k = K := by omega
    rw [he b r hr, L_LV_freeGathered_2, if_pos (Int32.le_refl _)]
    exact ⟨d, m, r, h, I, X, hu, rfl, rfl, rfl, hr, Or.inr ⟨rfl, hfa, hKP, hM, ht⟩⟩
  | succ t ih =>
    intro k n1 n2 hk h1 h2 d m r h I X hu hKP hM ht hfa hr hrw
    obtain ⟨a, rfl⟩ : ∃ a, n1 = a + 1 := ⟨n1 - 1, by omega⟩
    obtain ⟨b, rfl⟩ : ∃ b, n2 = b + 1 := ⟨n2 - 1, by omega⟩
    have hkK : k < K := by omega
    obtain ⟨j1, j2, j3, j4, j5⟩ := hrow k hkK
    rw [hs b r k hr hkK, L_LV_freeGathered_2, if_neg (nI_ge hkK (by omega)), C_gat (by omega) j5, bnd_some, hrw k hkK]
    unfold B_LV_freeGathered_16
    rcases R_release (f := f) (w := w) h hfa hM ht j1 (by rw [hu]; exact j2) with ⟨e1, e2, e3⟩ | ⟨d1, m1, r1, e1, e2, e3, e4, e5, e6, e7, e8⟩
    · rw [e1, e2, thM_l, bnd_some, freeDarkL (L := L) (fin := fin) hs he (r := rSFau (rSDar r 1) 1) hr rfl t (k + 1) b (by omega) (by omega)]
      exact ⟨dSPow d 0, m, _, e3, I, X, hu, rfl, rfl, rfl, hr, Or.inl ⟨rfl, rfl⟩⟩
    · rw [e1, e2, thM_r, bnd_some]
      unfold B_LV_freeGathered_19
      rw [nI_1]
      have I1 : IV B d1 := I.row (Nat.le_refl _) I.1 e6 (all13 (Or.inr ⟨by omega, 0, Nat.zero_le _, rfl⟩) (Or.inr ⟨by omega, 0, Nat.zero_le _, rfl⟩) (Or.inr ⟨by omega, 0, Nat.zero_le _, rfl⟩) (Or.inl ⟨Or.inl rfl, Or.inl rfl⟩) (Or.inl ⟨Or.inr rfl, Or.inl rfl⟩) (Or.inr ⟨by omega, 0, Nat.zero_le _, rfl⟩) (Or.inr ⟨by omega, 0, Nat.zero_le _, rfl⟩) (Or.inr ⟨by omega, 0, Nat.zero_le _, rfl⟩) (Or.inr ⟨by omega, 0, Nat.zero_le _, rfl⟩) (Or.inr ⟨by omega, 0, Nat.zero_le _, rfl⟩) (Or.inr ⟨by omega, 0, Nat.zero_le _, rfl⟩) (Or.inr ⟨by omega, 0, Nat.zero_le _, rfl⟩) (Or.inr ⟨by omega, 0, Nat.zero_le _, rfl⟩))
      have X1 : IX d1 := X.row e6 (fun q => absurd (show eV 0 = 0 from rfl) q) (fun q => absurd q j3) (fun q => absurd (show (0 : Int32) = 1 from q) (by decide))
      have hKP1 : KP d0 d1 S := fun y hy hS k' hk' => by
        rw [e6.1 y hy k' hk', if_neg (fun e => j4 (by rw [← e]; exact hS))]
        exact hKP y hy hS k' hk'
      obtain ⟨d', m', r', a1, a2, a3, a4, a5, a6, a7, a8, a9⟩ := ih (k + 1) a b (by omega) (by omega) (by omega) d1 m1 r1 e3 I1 X1 (e6.2.trans hu) hKP1 e4 e5 ((rP_fau e7).trans hfa) ((rP_rws e7).trans hr) (fun q hq => by rw [rP_row e7]; exact hrw q hq)
      exact ⟨d', m', r', a1, a2, a3, a4, a5.trans e8, a6.trans (rP_rep e7), a7, a8, a9⟩
/-- the cells of a page that becomes the last one -/
def endV (v : Nat → Int32) (u : Nat) : Nat → Int32 := fun k => if 5 + u ≤ k ∧ k < 13 then 0 else upd (upd v 3 (-1)) 2 (nI u) k
theorem C_endF0 {x n : Nat} (hx : x < 40) (hu : dUnr d x = 0) (hp : dCells d (x * 13 + 1) = 0) : f_Disk_endFileAt d (nI x) (nI n) = some ((), dSet d x 3 (-1)) := by
  unfold f_Disk_endFileAt B_Disk_endFileAt_7
  have e1 : dCells (dSet d x 3 (-1)) (x * 13 + 1) = dCells d (x * 13 + 1) := by rw [dSet_at (by decide) (by decide), if_neg (by omega)]
  rw [show xSetCell d (nI x) 3 (-1) = dSet d x 3 (-1) from C_set hx (k := 3) (by decide) hu _, xc1 hx (show dUnr (dSet d x 3 (-1)) x = 0 from hu), e1, hp, if_neg (not_not_intro rfl)]
theorem C_endF {x n p u : Nat} (hx : x < 40) (hu : dUnr d x = 0) (hp0 : 0 < p) (hpB : p < 2 ^ 20) (hp : dCells d (x * 13 + 1) = nI p) (hn : n = 8 * (p - 1) + u) (hu8 : u ≤ 8) : ∃ d', f_Disk_endFileAt d (nI x) (nI n) = some ((), d') ∧ DRow d d' x (endV (fun k => dCells d (x * 13 + k)) u) := by
  unfold f_Disk_endFileAt B_Disk_endFileAt_7 B_Disk_endFileAt_37
  have hu1 : dUnr (dSet d x 3 (-1)) x = 0 := hu
  have e1 : dCells (dSet d x 3 (-1)) (x * 13 + 1) = dCells d (x * 13 + 1) := by rw [dSet_at (by decide) (by decide), if_neg (by omega)]
  have eu : (nI n - 8 * (nI p - 1) : Int32) = nI u := by
    rw [show (1 : Int32) = nI 1 from rfl, pk_sub (by omega), show (8 : Int32) = nI 8 from rfl, pk_mul, pk_sub (by omega), show n - 8 * (p - 1) = u by omega]
  rw [show xSetCell d (nI x) 3 (-1) = dSet d x 3 (-1) from C_set hx (k := 3) (by decide) hu _, xc1 hx hu1, e1, hp, if_pos (nI_ne0 hp0 (by omega)), eu, show xSetCell (dSet d x 3 (-1)) (nI x) 2 (nI u) = dSet (dSet d x 3 (-1)) x 2 (nI u) from C_set (d := dSet d x 3 (-1)) hx (k := 2) (by decide) hu1 _]
  have h1 := ((DRow.refl d x).set (k := 3) (by decide) (-1)).set (k := 2) (by decide) (nI u)
  have hX := lp_ex (Lf := fun n z y => L_Disk_endFileAt_41 n z (nI x) y) (fin := fun z => some ((), z)) (N := 8) (fun j z => u ≤ j ∧ DRow d z x (fun k => if 5 + u ≤ k ∧ k < 5 + j then 0 else upd (upd (fun k => dCells d (x * 13 + k)) 3 (-1)) 2 (nI u) k)) (fun n z j hj hz => ?_) (fun n z _ => ?_) (8 - u) u (dSet (dSet d x 3 (-1)) x 2 (nI u)) 100 (by omega) (by omega) ⟨Nat.le_refl _, h1.congr fun k _ => by rw [if_neg (by omega)]⟩
  · obtain ⟨d', a1, a2, a3⟩ := hX
    exact ⟨d', a1, a3.congr fun k hk => rfl⟩
  · obtain ⟨z1, z2⟩ := hz
    show ∃ s', L_Disk_endFileAt_41 (n + 1) z (nI x) (nI j) = _ ∧ _
    rw [L_Disk_endFileAt_41, if_neg (gn 8 hj), C_setb hx hj (by rw [z2.unr]; exact hu)]
    unfold B_Disk_endFileAt_56
    rw [nI_1]
    refine ⟨dSet z x (5 + j) 0, rfl, by omega, (z2.set (k := 5 + j) (by omega) 0).congr fun k hk => ?_⟩
    by_cases q : k = 5 + j
    · rw [q, pk_us, if_pos (by omega)]
    · rw [pk_un q]
      by_cases q2 : 5 + u ≤ k ∧ k < 5 + j
      · rw [if_pos q2, if_pos (by omega)]
      · rw [if_neg q2, if_neg (by omega)]
  · show L_Disk_endFileAt_41 (n + 1) z (nI x) (nI 8) = _
    rw [L_Disk_endFileAt_41, if_pos (gy 8 (N := 8))]
theorem R_endF0 {i x n : Nat} (hx : x < 40) : B_Mod_shortened_68 r (nI i) (nI n) (nI 0) (nI x) 1 = B_Mod_shortened_141 (rSet r x 3 (-1)) (nI i) (nI x) := by
  unfold B_Mod_shortened_68 B_Mod_shortened_79 B_Mod_shortened_100
  rw [if_neg (by decide), if_pos (inB_nI hx (by decide)), if_pos (show nI 0 ≤ 0 by decide), if_pos (inB_nI hx (by decide)), cl_nI (by omega), L_Mod_shortened_109]
  have e : ∀ (c : Prop) [Decidable c] (a : Option (Unit × RS)), (if c then a else a) = a := fun c _ a => by by_cases h : c <;> simp [h]
  rw [if_pos (show nI 0 ≤ 0 by decide)]
  exact e _ _
theorem R_endF {i x n p u : Nat} (hx : x < 40) (hp0 : 0 < p) (hpB : p < 2 ^ 20) (hn : n = 8 * (p - 1) + u) (hu8 : u ≤ 8) : ∃ r', B_Mod_shortened_68 r (nI i) (nI n) (nI p) (nI x) 1 = B_Mod_shortened_141 r' (nI i) (nI x) ∧ RRow r r' x (endV (rC r x) u) := by
  unfold B_Mod_shortened_68 B_Mod_shortened_79 B_Mod_shortened_100
  have eu : (nI n - 8 * (nI p - 1) : Int32) = nI u := by
    rw [show (1 : Int32) = nI 1 from rfl, pk_sub (by omega), show (8 : Int32) = nI 8 from rfl, pk_mul, pk_sub (by omega), show n - 8 * (p - 1) = u by omega]
  have hpn : ¬ nI p ≤ 0 := nI_nle hp0 (by omega)
  rw [if_neg (by decide), if_pos (inB_nI hx (by decide)), if_neg hpn, if_pos (inB_nI hx (by decide)), if_pos (inB_nI hx (by decide)), cl_nI (by omega), eu]
  have h1 := ((RRow.refl r x).set (k := 3) (by decide) (-1)).set (k := 2) (by decide) (nI u)
  have hX := lp_ex (Lf := fun n z y => L_Mod_shortened_109 n z (nI i) (nI p) (nI x) y) (fin := fun z => B_Mod_shortened_141 z (nI i) (nI x)) (N := 8) (fun j z => u ≤ j ∧ RRow r z x (fun k => if 5 + u ≤ k ∧ k < 5 + j then 0 else upd (upd (rC r x) 3 (-1)) 2 (nI u) k)) (fun n z j hj hz => ?_) (fun n z _ => ?_) (8 - u) u (rSet (rSet r x 3 (-1)) x 2 (nI u)) 1000 (by omega) (by omega) ⟨Nat.le_refl _, h1.congr fun k _ => by rw [if_neg (by omega)]⟩
  · obtain ⟨r', a1, a2, a3⟩ := hX
    refine ⟨r', ?_, a3.congr fun k hk => rfl⟩
    show L_Mod_shortened_109 1000 (rSet (rSet r x 3 (-1)) x 2 (nI u)) (nI i) (nI p) (nI x) (upd (rUse (rSet r x 3 (-1))) x (nI u) x) = _
    rw [pk_us]
    exact a1
  · obtain ⟨z1, z2⟩ := hz
    show ∃ s', L_Mod_shortened_109 (n + 1) z (nI i) (nI p) (nI x) (nI j) = _ ∧ _
    rw [L_Mod_shortened_109, if_neg (gn 8 hj), if_neg hpn, byA, if_pos (inB_nI (show 8 * x + j < 320 by omega) (by decide)), cl_nI (by omega), ← rSetb]
    unfold B_Mod_shortened_135
    rw [nI_1]
    refine ⟨rSet z x (5 + j) 0, rfl, by omega, (z2.set (k := 5 + j) (by omega) 0).congr fun k hk => ?_⟩
    by_cases q : k = 5 + j
    · rw [q, pk_us, if_pos (by omega)]
    · rw [pk_un q]
      by_cases q2 : 5 + u ≤ k ∧ k < 5 + j
      · rw [if_pos q2, if_pos (by omega)]
      · rw [if_neg q2, if_neg (by omega)]
  · show L_Mod_shortened_109 (n + 1) z (nI i) (nI p) (nI x) (nI 8) = _
    rw [L_Mod_shortened_109, if_pos (gy 8 (N := 8))]
end FA
