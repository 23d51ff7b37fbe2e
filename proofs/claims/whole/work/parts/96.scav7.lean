/-! scavenging: a leader crowned; the pages of a file lost -/
def SV (s : SS) (r : RS) : Prop := sLos s = rRep r 1 ∧ sMad s = rRep r 2 ∧ sAdo s = rRep r 3 ∧ rRep r 0 = 0 ∧ rRep r 4 = 0 ∧ (∀ k, 1 ≤ k → k ≤ 60 → (bt (sRea s) k = true ↔ ¬ rRea r k = 0))
def SI (E : Nat → Prop) (B : Nat) (d : DS) (s : SS) (r : RS) (M : Nat → Nat) : Prop := RDx E d r ∧ IV B d ∧ IX d ∧ KT d r M ∧ SV s r
/-- what stays over all of the scavenging -/
def UR (d d' : DS) : Prop := ∀ y, y < 40 → ¬ dUnr d y = 0 → ∀ k, k < 13 → dCells d' (y * 13 + k) = dCells d (y * 13 + k)
def KE (d : DS) (r : RS) (d' : DS) (r' : RS) : Prop := dUnr d' = dUnr d ∧ dEarl d' = dEarl d ∧ rKep r' = rKep r ∧ rWas r' = rWas r ∧ UR d d'
theorem UR.trans {d d' d'' : DS} (hu : dUnr d' = dUnr d) (h : UR d d') (h' : UR d' d'') : UR d d'' := fun y hy u k hk => (h' y hy (by rw [hu]; exact u) k hk).trans (h y hy u k hk)
theorem UR.row {d d' : DS} {x : Nat} {v : Nat → Int32} (h : DRow d d' x v) (hu : dUnr d x = 0) : UR d d' := fun y hy u k hk => (h.1 y hy k hk).trans (if_neg (fun e => u (by rw [e]; exact hu)))
theorem KE.refl (d : DS) (r : RS) : KE d r d r := ⟨rfl, rfl, rfl, rfl, fun _ _ _ _ _ => rfl⟩
theorem KE.trans {d d' d'' : DS} {r r' r'' : RS} (h : KE d r d' r') (h' : KE d' r' d'' r'') : KE d r d'' r'' := ⟨h'.1.trans h.1, h'.2.1.trans h.2.1, h'.2.2.1.trans h.2.2.1, h'.2.2.2.1.trans h.2.2.2.1, UR.trans h.1 h.2.2.2.2 h'.2.2.2.2⟩
theorem DRow.earl {d d' : DS} {i : Nat} {v : Nat → Int32} (h : DRow d d' i v) : dEarl d' = dEarl d := congrArg (·.1) h.2
def cnN (P : Nat → Bool) : Nat → Nat
  | 0 => 0
  | n + 1 => cnN P n + (if P n = true then 1 else 0)
theorem cnN_none {P : Nat → Bool} : ∀ n, (∀ y, y < n → P y = false) → cnN P n = 0 := by
  intro n
  induction n with
  | zero => intro _; rfl
  | succ n ih => intro h; rw [cnN, ih (fun y hy => h y (by omega)), h n (by omega)]; rfl
theorem cnN_cg {P Q : Nat → Bool} : ∀ n, (∀ y, y < n → P y = Q y) → cnN P n = cnN Q n := by
  intro n
  induction n with
  | zero => intro _; rfl
  | succ n ih => intro h; rw [cnN, cnN, ih (fun y hy => h y (by omega)), h n (by omega)]
theorem cnN_del {P : Nat → Bool} {a : Nat} (ha : P a = true) : ∀ n, a < n → cnN P n = cnN (fun y => P y && !decide (y = a)) n + 1 := by
  intro n
  induction n with
  | zero => intro h; omega
  | succ n ih =>
    intro h
    rw [cnN, cnN]
    by_cases e : a = n
    · subst e
      rw [ha, cnN_cg (Q := fun y => P y && !decide (y = a)) a (fun y hy => by
        show P y = (P y && !decide (y = a))
        rw [decide_eq_false (show ¬ y = a by omega)]; simp)]
      simp
    · rw [ih (by omega), show (P n && !decide (n = a)) = P n by rw [decide_eq_false (fun q => e q.symm)]; simp]
      omega
theorem cnN_img : ∀ (M N : Nat) (P : Nat → Bool) (f : Nat → Nat), (∀ p, 1 ≤ p → p ≤ M → f p < N ∧ P (f p) = true) → (∀ p q, 1 ≤ p → p ≤ M → 1 ≤ q → q ≤ M → f p = f q → p = q) → (∀ y, y < N → P y = true → ∃ p, 1 ≤ p ∧ p ≤ M ∧ f p = y) → cnN P N = M := by
  intro M
  induction M with
  | zero =>
    intro N P f h1 h2 h3
    refine cnN_none N (fun y hy => ?_)
    cases g : P y
    · rfl
    · obtain ⟨p, p1, p2, -⟩ := h3 y hy g; omega
  | succ M ih =>
    intro N P f h1 h2 h3
    obtain ⟨a1, a2⟩ := h1 (M + 1) (by omega) (Nat.le_refl _)
    rw [cnN_del a2 N a1, ih N (fun y => P y && !decide (y = f (M + 1))) f (fun p p1 p2 => ?_) (fun p q p1 p2 q1 q2 e => h2 p q p1 (by omega) q1 (by omega) e) (fun y hy hP => ?_)]
    · obtain ⟨b1, b2⟩ := h1 p p1 (by omega)
      refine ⟨b1, ?_⟩
      show (P (f p) && !decide (f p = f (M + 1))) = true
      rw [b2, decide_eq_false (fun e => by have := h2 p (M + 1) p1 (by omega) (by omega) (Nat.le_refl _) e; omega)]; rfl
    · have hP' : (P y && !decide (y = f (M + 1))) = true := hP
      rw [Bool.and_eq_true] at hP'
      obtain ⟨p, p1, p2, p3⟩ := h3 y hy hP'.1
      refine ⟨p, p1, ?_, p3⟩
      rcases Nat.lt_or_ge p (M + 1) with z | z
      · omega
      · have : p = M + 1 := by omega
        subst this
        have := hP'.2
        rw [decide_eq_true p3.symm] at this
        cases this
section S7
variable {d : DS} {r : RS} {f : FS} {w : WS} {m : MS} {s : SS} {g : GS} {B : Nat} {E : Nat → Prop} {M : Nat → Nat}
theorem R_crown {sn n kd : Nat} (h : SI E B d s r M) (hs1 : 1 ≤ sn) (hs : sn ≤ 60) (hno : xSearch d (nI sn) 0 = -1) (hn : n < 65536) (hk : kd < 256) : (xLowFree d = -1 ∧ f_Scav_makeLeader d f w m s (nI sn) (nI n) (nI kd) = (0, (d, s)) ∧ f_Mod_crown r (nI sn) (nI n) (nI kd) = some ((), r)) ∨
    (∃ d' s' r' x, f_Scav_makeLeader d f w m s (nI sn) (nI n) (nI kd) = (1, (d', s')) ∧ f_Mod_crown r (nI sn) (nI n) (nI kd) = some ((), r') ∧ SI E B d' s' r' M ∧ x < 40 ∧ xFree d (nI x) = true ∧ DRow d d' x (lV (nI sn) (nI (n / 256)) (nI (n % 256)) (nI kd) (nI x)) ∧ xSearch d' (nI sn) 0 = nI x ∧ KE d r d' r' ∧ sRea s' = sRea s ∧ rRea r' = rRea r) := by
  obtain ⟨hR, I, X, ⟨hU, hF⟩, hV⟩ := h
  unfold f_Scav_makeLeader B_Scav_makeLeader_29 f_Mod_crown B_Mod_crown_4
  rw [L_lowFree hR.lb, bnd_some]
  rcases xLowFree_spec d with ⟨e, -⟩ | ⟨x, hx, e, hFr⟩
  · rw [e, if_neg (not_not_intro rfl), if_pos (show ((-1 : Int32), ()).1 < 0 by decide)]
    exact Or.inl ⟨rfl, rfl, rfl⟩
  · obtain ⟨hux, hcx⟩ := free_of hx hFr
    have hx0 : x ≠ 0 := X.ne0 hux hcx
    have g1 := C_mkL (d := d) (x := x) (n := n) (k := kd) (a := nI sn) hx hux hn hk
    obtain ⟨r1, g2, g3⟩ := R_mkL (r := r) (x := x) (n := n) (a := nI sn) (k := nI kd) hx hn
    rw [e, if_pos (nI_m1 (by omega)), if_neg (show ¬ (nI x, ()).1 < 0 from nI_pos (by omega)), show f_Mod_makeLeader r (nI x, ()).1 (nI sn) (nI n) (nI kd) = _ from g2, bnd_some]
    unfold B_Mod_crown_20 B_Mod_crown_33 B_Mod_crown_47
    rw [ix40h, if_pos (inB_nI (show 40 * sn < 2440 by omega) (by decide)), cl_nI (by omega), if_pos (by decide), if_pos (by decide)]
    have R1 : RDx E (f_Disk_makeLeader d (nI x) (nI sn) (nI n) (nI kd)).2 r1 := hR.row g1 g3 (fun _ _ _ => rfl)
    generalize (f_Disk_makeLeader d (nI x) (nI sn) (nI n) (nI kd)).2 = d1 at g1 R1
    have t1 : ∀ a, a ≠ 40 * sn → upd (rTab r1) (40 * sn) (nI x + 1) a = rTab r1 a := fun a ha => pk_un ha
    have t1' : upd (rTab r1) (40 * sn) (nI x + 1) (40 * sn) = nI x + 1 := pk_us
    show _ ∨ ∃ d' s' r' x', _ ∧ some ((), rSRep (rSTab r1 (upd (rTab r1) (40 * sn) (nI x + 1))) _) = _ ∧ _
    generalize upd (rTab r1) (40 * sn) (nI x + 1) = T at t1 t1' ⊢
    rw [Rep_Tab]
    have p1 : upd (rRep r1) 2 (rRep r1 2 + 1) 2 = rRep r1 2 + 1 := pk_us
    have p2 : ∀ k, k ≠ 2 → upd (rRep r1) 2 (rRep r1 2 + 1) k = rRep r1 k := fun k hk => pk_un hk
    show _ ∨ ∃ d' s' r' x', _ ∧ some ((), rSRep (rSTab r1 T) (upd (rRep r1) 2 (rRep r1 2 + 1))) = _ ∧ _
    generalize upd (rRep r1) 2 (rRep r1 2 + 1) = P at p1 p2 ⊢
    have hrT : rT r1 = rT r := rO_T g3.2
    have hrep : rRep r1 = rRep r := rO_rep g3.2
    have eTab : rTab (rSRep (rSTab r1 T) P) = T := (Tab_Rep _ _).trans (Tab_Tab _ _)
    have eMan : rMan (rSRep (rSTab r1 T) P) = rMan r := ((Man_Rep _ _).trans (Man_Tab _ _)).trans (rT_man hrT)
    have eRea : rRea (rSRep (rSTab r1 T) P) = rRea r := ((Rea_Rep _ _).trans (Rea_Tab _ _)).trans (rT_rea hrT)
    have eKep : rKep (rSRep (rSTab r1 T) P) = rKep r := ((Kep_Rep _ _).trans (Kep_Tab _ _)).trans (rT_kep hrT)
    have eWas : rWas (rSRep (rSTab r1 T) P) = rWas r := ((Was_Rep _ _).trans (Was_Tab _ _)).trans (rT_was hrT)
    have eRep : rRep (rSRep (rSTab r1 T) P) = P := Rep_Rep _ _
    have R2 : RDx E d1 (rSRep (rSTab r1 T) P) := (R1.tab T).repS P
    generalize rSRep (rSTab r1 T) P = r2 at eTab eMan eRea eKep eWas eRep R2 ⊢
    have hnew : xSearch d1 (nI sn) 0 = nI x := S_new (pn := 0) g1.du hx hFr hs1 hs rfl rfl hno
    refine Or.inr ⟨d1, sSMad s (sMad s + 1), r2, x, rfl, rfl, ⟨R2, ?_, X.row g1.du (fun _ _ => rfl) (fun q => absurd q hx0) (fun _ q => absurd rfl q), ⟨U_add (pn := 0) hU g1.du hx hFr hs1 hs rfl rfl hno, fun t ht1 ht => ?_⟩, ?_⟩, hx, hFr, g1, hnew, ⟨g1.unr, g1.earl, eKep, eWas, UR.row g1 hux⟩, rfl, eRea⟩
    · refine I.row (Nat.le_refl _) I.1 g1.du (all13 ?_ ?_ ?_ ?_ ?_ ?_ ?_ ?_ ?_ ?_ ?_ ?_ ?_)
      · exact Or.inr ⟨by omega, sn, hs, rfl⟩
      · exact Or.inr ⟨by omega, 0, Nat.zero_le _, rfl⟩
      · exact Or.inr ⟨by omega, 8, by show 8 ≤ 8; decide, rfl⟩
      · exact Or.inl ⟨Or.inl rfl, Or.inl rfl⟩
      · exact Or.inl ⟨Or.inr rfl, Or.inl rfl⟩
      · exact vOKb (j := 0) (show n / 256 < 256 by omega)
      · exact vOKb (j := 1) (show n % 256 < 256 by omega)
      · exact vOKb (j := 2) hk
      · exact vOKb (j := 3) (show x < 256 by omega)
      all_goals exact Or.inr ⟨by omega, 0, Nat.zero_le _, rfl⟩
    · rw [eTab, eMan]
      have hFt := hF t ht1 ht
      by_cases et : t = sn
      · subst et
        obtain ⟨k1, k2, k3, k4, k5, k6, k7⟩ := hFt
        have hsr : ∀ p, 1 ≤ p → p < 2 ^ 31 → xSearch d1 (nI t) (nI p) = xSearch d (nI t) (nI p) := fun p hp hp2 => S_add (pn := 0) g1.du hx hFr rfl rfl (nI t) (nI p) (nI_m1 (by omega)) (nI_ne0 (by omega) (by omega)) (fun q => by
          have := (nI_eq (b := 0) hp2 (by decide)).mp q.2; omega)
        refine ⟨k1, k2, k3, by rw [t1', hnew], fun p p1' p2' => ?_, fun i hi ui c => ?_, fun p p1' p2' => ?_⟩
        · rw [hsr p p1' (by omega), t1 _ (by omega), rT_tab hrT]; exact k5 p p1' p2'
        · by_cases a : i = x
          · exact ⟨0, Nat.zero_le _, (g1.1 i hi 1 (by decide)).trans (if_pos a)⟩
          · have e0 : dCells d1 (i * 13) = dCells d (i * 13) := (g1.1 i hi 0 (by decide)).trans (if_neg a)
            rw [g1.1 i hi 1 (by decide), if_neg a]
            exact k6 i hi (by rw [← g1.unr]; exact ui) (by rw [← e0]; exact c)
        · obtain ⟨i, i1, i2, i3⟩ := k7 p p1' p2'
          rw [hsr p p1' (by omega)]
          refine ⟨i, i1, i2, ?_⟩
          have hix : i ≠ x := fun q => by
            obtain ⟨j, j1, j2, j3, j4, j5⟩ := found (d := d) (s := nI t) (p := nI p) (nI_m1 (by omega)) (by rw [i2]; exact nI_m1 (by omega))
            have e : j = i := (nI_eq (by omega) (by omega)).mp (j2.symm.trans i2)
            rw [e, q, hcx] at j4
            exact absurd ((nI_eq (a := 0) (by decide) (by omega)).mp j4) (by omega)
          rw [g1.1 i i1 2 (by decide), if_neg hix]; exact i3
      · exact hFt.other (pn := 0) g1.du hx hFr ht1 ht hs1 hs et rfl rfl (fun p hp => by rw [t1 _ (by omega), rT_tab hrT]) rfl
    · obtain ⟨v1, v2, v3, v4, v5, v6⟩ := hV
      unfold SV
      rw [eRep, eRea, p1, p2 1 (by decide), p2 3 (by decide), p2 0 (by decide), p2 4 (by decide), hrep]
      exact ⟨v1, congrArg (· + 1) v2, v3, v4, v5, v6⟩
end S7
