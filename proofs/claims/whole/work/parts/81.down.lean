/-! the pages of a file from its last one on down -/
def cD (d : DS) (P k : Nat) : Prop := ∀ q, q ≤ k → ∃ j, j < 40 ∧ dCells d (j * 13 + 1) = nI (P - q)
theorem cD_lt {d : DS} {P k : Nat} (h : cD d P k) (hP : P < 2 ^ 31) (hk : k ≤ P) : k < 40 := by
  apply Classical.byContradiction
  intro hn
  have hc : ∀ q, ∃ j, q < 41 → j < 40 ∧ dCells d (j * 13 + 1) = nI (P - q) := fun q => by
    by_cases hq : q < 41
    · obtain ⟨j, j1, j2⟩ := h q (by omega)
      exact ⟨j, fun _ => ⟨j1, j2⟩⟩
    · exact ⟨0, fun q' => absurd q' hq⟩
  obtain ⟨a, b, ab, b1, e⟩ := pig 40 (fun q => Classical.choose (hc q)) (fun q hq => (Classical.choose_spec (hc q) hq).1)
  have ea := (Classical.choose_spec (hc a) (by omega)).2
  have eb := (Classical.choose_spec (hc b) b1).2
  have e' : Classical.choose (hc a) = Classical.choose (hc b) := e
  rw [e'] at ea
  have := (nI_eq (by omega) (by omega)).mp (ea.symm.trans eb)
  omega
def GRow (d : DS) (s0 : Int32) (P : Nat) (g : GS) (r : RS) (k : Nat) : Prop := ∀ q, q < k → ∃ j, j < 40 ∧ dUnr d j = 0 ∧ dCells d (j * 13) = s0 ∧ dCells d (j * 13 + 1) = nI (P - q) ∧ gGat g q = nI j ∧ rRow r q = nI j
section DN
variable {d : DS} {f : FS} {w : WS} {m : MS} {s : SS} {B : Nat}
theorem R_downL {P to : Nat} {s0 : Int32} (I : IV B d) (hP : P ≤ B) : ∀ t k, k + t = 41 → to + k ≤ P → ∀ n1 n2, t + 1 < n1 → t + 1 < n2 → ∀ mm r g x, RD (dSMis d mm) r → rRws r = nI k → x < 40 → dUnr d x = 0 → dCells d (x * 13) = s0 → dCells d (x * 13 + 1) = nI (P - k) → cD d P k → rFau r = 0 → GRow d s0 P g r k →
    ∃ mm' g' r', RD (dSMis d mm') r' ∧ rKep r' = rKep r ∧ rRep r' = rRep r ∧ ((L_LV_gatherPages_16 n1 (dSMis d mm) f w m s g (nI to) (nI k) (nI x) (nI (P - k)) = some (.inl 4, (dSMis d mm', g')) ∧ L_Mod_down_10 n2 r (nI to) (nI x) (nI k) = some (-1, r') ∧ rFau r' = 4) ∨
      (∃ y, L_LV_gatherPages_16 n1 (dSMis d mm) f w m s g (nI to) (nI k) (nI x) (nI (P - k)) = some (.inr (nI (P - to + 1)), (dSMis d mm', g')) ∧ L_Mod_down_10 n2 r (nI to) (nI x) (nI k) = some (nI y, r') ∧ rFau r' = 0 ∧ rRws r' = nI (P - to) ∧ GRow d s0 P g' r' (P - to) ∧ P - to < 40 ∧ gGat g' (P - to) = nI y ∧ y < 40 ∧ dUnr d y = 0 ∧ dCells d (y * 13) = s0 ∧ dCells d (y * 13 + 1) = nI to)) := by
  intro t
  have hBB := I.1
  induction t with
  | zero =>
    intro k hk hto n1 n2 h1 h2 mm r g x h hr hx hu hs hp hc hfa hG
    exact absurd (cD_lt hc (by omega) (by omega)) (by omega)
  | succ t ih =>
    intro k hk hto n1 n2 h1 h2 mm r g x h hr hx hu hs hp hc hfa hG
    obtain ⟨a, rfl⟩ : ∃ a, n1 = a + 1 := ⟨n1 - 1, by omega⟩
    obtain ⟨b, rfl⟩ : ∃ b, n2 = b + 1 := ⟨n2 - 1, by omega⟩
    have hk40 := cD_lt hc (by omega) (by omega)
    have hxin : inB (nI x) 40 := inB_nI hx (by decide)
    rw [L_LV_gatherPages_16, L_Mod_down_10, if_neg (nI_nlt (by omega) (by omega)), if_neg (gn 40 hk40), if_pos (inB_nI hk40 (by decide)), if_neg (gn 50 (N := 50) (by omega)), if_neg (nI_pos (by omega)), if_pos hxin, cl_nI (by omega), cl_nI (by omega), hr, if_pos (inB_nI hk40 (by decide)), cl_nI (by omega), ← h.pag hx]
    show ∃ mm' g' r', _ ∧ _ ∧ _ ∧ ((_ ∧ (if dCells d (x * 13 + 1) ≤ nI to then _ else _) = _ ∧ _) ∨ (∃ y, _ ∧ (if dCells d (x * 13 + 1) ≤ nI to then _ else _) = _ ∧ _))
    rw [hp]
    by_cases e : P - k ≤ to
    · have eto : P - k = to := by omega
      have ek : P - to = k := by omega
      rw [if_pos (nI_le e (by omega)), if_pos (nI_le e (by omega))]
      unfold B_LV_gatherPages_60 B_Mod_down_64
      refine ⟨mm, gSGat g (upd (gGat g) k (nI x)), r, h, rfl, rfl, Or.inr ⟨x, ?_, rfl, hfa, ?_, ?_, ?_, ?_, hx, hu, hs, ?_⟩⟩
      · obtain ⟨c, rfl⟩ : ∃ c, a = c + 1 := ⟨a - 1, by omega⟩
        rw [L_LV_gatherPages_16, if_pos ?_]
        · unfold B_LV_gatherPages_66
          rw [nI_1, ek]
        · rw [eto, Int32.lt_iff_toInt_lt]
          rcases Nat.eq_zero_or_pos to with z | z
          · rw [z]; decide
          · obtain ⟨c2, rfl⟩ : ∃ c2, to = c2 + 1 := ⟨to - 1, by omega⟩
            rw [pk_m1, nI_toInt (by omega), nI_toInt (by omega)]; omega
      · rw [ek]; exact hr
      · rw [ek]
        intro q hq
        obtain ⟨j, j1, j2, j3, j4, j5, j6⟩ := hG q hq
        exact ⟨j, j1, j2, j3, j4, by show upd (gGat g) k (nI x) q = nI j; rw [pk_un (by omega)]; exact j5, j6⟩
      · omega
      · rw [ek]; exact pk_us
      · rw [hp, eto]
    · have hgt : ¬ nI (P - k) ≤ nI to := nI_ge (by omega) (by omega)
      rw [if_neg hgt, if_neg hgt]
      unfold B_Mod_down_41 B_Mod_down_51
      obtain ⟨r1, er1, h', hk1, hp1, hw1, hf1, ho1⟩ : ∃ r1, r1 = rSRws (rSRow r (upd (rRow r) k (nI x))) (rRws (rSRow r (upd (rRow r) k (nI x))) + 1) ∧ RD (dSMis d mm) r1 ∧ rKep r1 = rKep r ∧ rRep r1 = rRep r ∧ rRws r1 = nI (k + 1) ∧ rFau r1 = 0 ∧ rRow r1 = upd (rRow r) k (nI x) :=
        ⟨_, rfl, ⟨h.1, h.2.1, h.2.2.1, h.2.2.2⟩, rfl, rfl, by rw [← nI_1, ← hr]; rfl, hfa, rfl⟩
      rw [← er1]
      clear er1
      obtain ⟨g1, eg1⟩ : ∃ g1, g1 = gSGat g (upd (gGat g) k (nI x)) := ⟨_, rfl⟩
      rw [← eg1]
      have og1 : gGat g1 = upd (gGat g) k (nI x) := by rw [eg1]; rfl
      clear eg1
      obtain ⟨v, m2, e1, e2, e3⟩ := R_ahead (f := f) (B := B) h' I hx hu
      rw [e1, e2, bnd_some]
      unfold B_LV_gatherPages_55 B_Mod_down_57
      have hm2 : RD (dSMis d m2) (rSMis r1 m2) := h'.mi m2
      rcases e3 with rfl | ⟨y, rfl, y1, y2, y3, y4⟩
      · obtain ⟨c, rfl⟩ : ∃ c, b = c + 1 := ⟨b - 1, by omega⟩
        rw [unb1, thM_l]
        refine ⟨m2, g1, rSFau (rSMis r1 m2) 4, hm2, hk1, hp1, Or.inl ⟨rfl, ?_, rfl⟩⟩
        rw [nI_1, L_Mod_down_10, if_neg (gn 50 (N := 50) (by omega)), if_pos (show (-1 : Int32) < 0 by decide)]
        rfl
      · rw [unb2 y1, thM_r]
        unfold B_LV_gatherPages_58 B_LV_gatherPages_60
        have ep : nI (P - k) + -1 = nI (P - (k + 1)) := by
          rw [show P - k = (P - (k + 1)) + 1 by omega, pk_m1]
        have y5 : dCells d (y * 13 + 1) = nI (P - (k + 1)) := by
          rw [← ep, ← hp]; exact y4
        rw [nI_1, ep, if_neg (nI_m1 (by omega)), hf1]
        have hc' : cD d P (k + 1) := fun q hq => by
          by_cases z : q = k + 1
          · exact ⟨y, y1, by rw [z]; exact y5⟩
          · exact hc q (by omega)
        have hG' : GRow d s0 P g1 (rSFau (rSMis r1 m2) 0) (k + 1) := by
          intro q hq
          show ∃ j, j < 40 ∧ dUnr d j = 0 ∧ dCells d (j * 13) = s0 ∧ dCells d (j * 13 + 1) = nI (P - q) ∧ gGat g1 q = nI j ∧ rRow r1 q = nI j
          rw [og1, ho1]
          by_cases z : q = k
          · subst z; exact ⟨x, hx, hu, hs, hp, pk_us, pk_us⟩
          · obtain ⟨j, j1, j2, j3, j4, j5, j6⟩ := hG q (by omega)
            exact ⟨j, j1, j2, j3, j4, by rw [pk_un z]; exact j5, by rw [pk_un z]; exact j6⟩
        obtain ⟨mm', g', r', a1, a2, a3, a4⟩ := ih (k + 1) (by omega) (by omega) a b (by omega) (by omega) m2 (rSFau (rSMis r1 m2) 0) g1 y hm2 hw1 y1 y2 (y3.trans hs) y5 hc' rfl hG'
        exact ⟨mm', g', r', a1, a2.trans hk1, a3.trans hp1, a4⟩
theorem R_down {r : RS} {g : GS} {P to x : Nat} (h : RD d r) (I : IV B d) (hP : P ≤ B) (hto : to ≤ P) (hx : x < 40) (hu : dUnr d x = 0) (hp : dCells d (x * 13 + 1) = nI P) (hfa : rFau r = 0) :
    ∃ mm' g' r', RD (dSMis d mm') r' ∧ rKep r' = rKep r ∧ rRep r' = rRep r ∧ ((f_LV_gatherPages d f w m s g (nI x) (nI to) = some (.inl 4, (dSMis d mm', g')) ∧ f_Mod_down r (nI x) (nI to) = some (-1, r') ∧ rFau r' = 4) ∨
      (∃ y, f_LV_gatherPages d f w m s g (nI x) (nI to) = some (.inr (nI (P - to + 1)), (dSMis d mm', g')) ∧ f_Mod_down r (nI x) (nI to) = some (nI y, r') ∧ rFau r' = 0 ∧ rRws r' = nI (P - to) ∧ GRow d (dCells d (x * 13)) P g' r' (P - to) ∧ P - to < 40 ∧ gGat g' (P - to) = nI y ∧ y < 40 ∧ dUnr d y = 0 ∧ dCells d (y * 13) = dCells d (x * 13) ∧ dCells d (y * 13 + 1) = nI to)) := by
  unfold f_LV_gatherPages f_Mod_down B_Mod_down_5
  rw [xc1 hx hu, hp]
  have h0 : RD (dSMis d (dMis d)) (rSRws r 0) := ⟨h.1, h.2.1, h.2.2.1, h.2.2.2⟩
  exact R_downL (f := f) (w := w) (m := m) (s := s) I hP 41 0 rfl (by omega) 100 1000 (by decide) (by decide) (dMis d) (rSRws r 0) g x h0 rfl hx hu rfl hp (fun q hq => ⟨x, hx, by rw [show q = 0 by omega]; exact hp⟩) hfa (fun q hq => absurd hq (by omega))
end DN
