/-! the last page, a page by its number -/
section LP
variable {f : FS} {B : Nat}
def chn (d : DS) (c : Nat) : Prop := ∀ q, q ≤ c → ∃ j, j < 40 ∧ dCells d (j * 13 + 1) = nI q
theorem chn40 {d : DS} (h : chn d 40) : False := pig40 (P := nI) (fun a b h1 h2 => nI_inj41 h1 h2) (fun q hq => h q (by omega))
theorem chn.next {d : DS} {c j : Nat} (h : chn d c) (hj : j < 40) (hp : dCells d (j * 13 + 1) = nI (c + 1)) : chn d (c + 1) := by
  intro q hq
  by_cases e : q = c + 1
  · rw [e]; exact ⟨j, hj, hp⟩
  · exact h q (by omega)
theorem chn0 {d : DS} {i : Nat} (hi : i < 40) (hp : dCells d (i * 13 + 1) = 0) : chn d 0 := by
  intro q hq
  rw [show q = 0 by omega]
  exact ⟨i, hi, hp⟩
def isLast (d : DS) (s : Int32) (v : Int32) : Prop := ∃ j, v = nI j ∧ j < 40 ∧ dUnr d j = 0 ∧ dCells d (j * 13) = s ∧ dCells d (j * 13 + 3) = -1
theorem lastC_none (n : Nat) (d : DS) (x : Int32) : L_Finder_lastOf_58 (n + 1) d f (-1) x = some (-1, d) := by
  rw [L_Finder_lastOf_58]
  unfold B_Finder_lastOf_96
  by_cases h : (40 : Int32) ≤ x
  · rw [if_pos h]
  · rw [if_neg h, if_pos rfl]
theorem R_lastL : ∀ k c, c + k = 40 → ∀ (n n' : Nat) (d : DS) (r : RS) (i : Nat), k + 2 ≤ n → k + 2 ≤ n' → RD d r → IV B d → i < 40 → dUnr d i = 0 → dCells d (i * 13 + 1) = nI c → chn d c →
    ∃ v m, L_Finder_lastOf_58 n d f (nI i) (nI c) = some (v, dSMis d m) ∧ L_Mod_last_69 n' r (nI i) (nI c) = some (v, rSFau (rSMis r m) (if v = -1 then 4 else rFau r)) ∧ (v = -1 ∨ isLast d (dCells d (i * 13)) v) := by
  intro k
  induction k with
  | zero =>
    intro c hc n n' d r i _ _ _ _ _ _ _ hch
    rw [show c = 40 by omega] at hch
    exact (chn40 hch).elim
  | succ k ih =>
    intro c hc n n' d r i hn hn' h I hi hu hp hch
    obtain ⟨a, rfl⟩ : ∃ a, n = a + 1 := ⟨n - 1, by omega⟩
    obtain ⟨b, rfl⟩ : ∃ b, n' = b + 1 := ⟨n' - 1, by omega⟩
    rw [L_Finder_lastOf_58, L_Mod_last_69, if_neg (gn 40 (show c < 40 by omega)), if_neg (gn 50 (show c < 50 by omega)), if_neg (nI_m1 (by omega)), if_neg (nI_pos (by omega)), if_pos (inB_nI hi (by decide)), cl_nI (by omega), xc3 hi hu, ← h.nex hi]
    rcases I.lnk hi (Or.inl rfl) with ⟨q1, q2⟩ | ⟨q1, q2⟩
    · rw [if_pos q1, if_pos q2]
      refine ⟨nI i, dMis d, rfl, ?_, Or.inr ⟨i, rfl, hi, hu, rfl, q1⟩⟩
      rw [if_neg (nI_m1 (by omega)), h.2.2.1]; rfl
    · rw [if_neg q1, if_neg q2]
      obtain ⟨v, m, e1, e2, e3⟩ := R_behind (f := f) h I hi hu
      rw [e1, e2, bnd_some]
      unfold B_Finder_lastOf_89 B_Mod_last_95
      show ∃ v' m', L_Finder_lastOf_58 a (dSMis d m) f v (nI c + 1) = _ ∧ L_Mod_last_69 b (rSFau (rSMis r m) (if v = -1 then 4 else rFau r)) v (nI c + 1) = _ ∧ _
      rw [nI_1]
      rcases e3 with rfl | ⟨j, rfl, j1, j2, j3, j4⟩
      · obtain ⟨a', rfl⟩ : ∃ a', a = a' + 1 := ⟨a - 1, by omega⟩
        obtain ⟨b', rfl⟩ : ∃ b', b = b' + 1 := ⟨b - 1, by omega⟩
        rw [lastC_none, L_Mod_last_69, if_neg (gn 50 (show c + 1 < 50 by omega)), if_pos (show (-1 : Int32) < 0 by decide)]
        exact ⟨-1, m, rfl, rfl, Or.inl rfl⟩
      · rw [if_neg (nI_m1 (by omega))]
        have hp2 : dCells d (j * 13 + 1) = nI (c + 1) := by rw [j4, hp, nI_1]
        obtain ⟨v', m', g1, g2, g3⟩ := ih (c + 1) (by omega) a b (dSMis d m) (rSFau (rSMis r m) (rFau r)) j (by omega) (by omega) (h.mis m (rKep r)) I j1 j2 hp2 (hch.next j1 hp2)
        refine ⟨v', m', g1, ?_, ?_⟩
        · rw [g2]; rfl
        · rcases g3 with g3 | g3
          · exact Or.inl g3
          · rw [show dCells (dSMis d m) (j * 13) = dCells d (i * 13) from j3] at g3
            exact Or.inr g3
theorem ix8 (i j : Nat) : 8 * nI i + nI j = nI (8 * i + j) := by
  rw [show (8 : Int32) = nI 8 from rfl, pk_mul, nI_add]
theorem IV.byt {d : DS} (I : IV B d) {i j : Nat} (hi : i < 40) (hj : j < 8) : ∃ b, b < 256 ∧ dCells d (i * 13 + (5 + j)) = nI b := by
  have h := (I.2 i hi).2.1 (5 + j) (by omega) (by omega) (by omega)
  refine ⟨_, ?_, h.1⟩
  have h2 := h.2
  rw [show mxK B (5 + j) = 255 by rw [Nat.add_comm]; rfl] at h2
  omega
theorem R_last {d : DS} {r : RS} (h : RD d r) (I : IV B d) {i : Nat} (hi : i < 40) (hu : dUnr d i = 0) (hp : dCells d (i * 13 + 1) = 0) :
    ∃ v m, f_Finder_lastOf d f (nI i) = some (v, dSMis d m) ∧ f_Mod_last r (nI i) = some (v, rSFau (rSMis r m) (if v = -1 then 4 else rFau r)) ∧ (v = -1 ∨ isLast d (dCells d (i * 13)) v) := by
  unfold f_Finder_lastOf f_Mod_last f_Disk_byteAt
  obtain ⟨b, hb, eb⟩ := I.byt hi (show 3 < 8 by decide)
  have e1 : xCell d (nI i) (5 + 3) = nI b := by rw [← eb]; exact xcb (j := 3) hi (by decide) hu
  have e2 : rByt r (8 * i + 3) = nI b := by rw [← h.byt hi (by decide), eb]
  have hS := I.ser1 hi
  -- the long way
  have hL : ∃ v m, B_Finder_lastOf_46 d f (nI i) = some (v, dSMis d m) ∧ B_Mod_last_54 r (nI i) = some (v, rSFau (rSMis r m) (if v = -1 then 4 else rFau r)) ∧ (v = -1 ∨ isLast d (dCells d (i * 13)) v) := by
    obtain ⟨v, m, g1, g2, g3⟩ := R_lastL (f := f) 40 0 rfl 100 1000 (dSMis d (dMis d + 1)) (rSMis r (dMis d + 1)) i (by decide) (by decide) (h.mis (dMis d + 1) (rKep r)) I hi hu hp (chn0 hi hp)
    refine ⟨v, m, g1, ?_, g3⟩
    unfold B_Mod_last_54 B_Mod_last_64
    rw [← h.2.2.1]
    exact g2
  show ∃ v m, (if ¬ xCell d (xCell d (nI i) (5 + 3)) 0 = xCell d (nI i) 0 then _ else if ¬ xCell d (xCell d (nI i) (5 + 3)) 3 = -1 then _ else some (xCell d (nI i) (5 + 3), d)) = _ ∧ _
  rw [e1, xc0 hi hu, show (8 * nI i + 3 : Int32) = nI (8 * i + 3) from ix8 i 3, if_pos (inB_nI (show 8 * i + 3 < 320 by omega) (by decide)), cl_nI (by omega), e2]
  by_cases hb4 : b < 40
  · rw [if_neg (gn 40 hb4), if_pos (inB_nI hb4 (by decide)), if_pos (inB_nI hb4 (by decide)), if_pos (inB_nI hi (by decide)), if_pos (inB_nI hb4 (by decide)), cl_nI (by omega), cl_nI (by omega), ← h.bad hb4, ← h.ser hb4, ← h.ser hi, ← h.nex hb4]
    by_cases hub : dUnr d b = 0
    · rw [if_neg (show ¬ ¬ dUnr d b = 0 from fun q => q hub), xc0 hb4 hub, xc3 hb4 hub]
      by_cases g1 : dCells d (b * 13) = dCells d (i * 13)
      · rw [if_neg (not_not_intro g1), if_neg (not_not_intro g1)]
        by_cases g2 : dCells d (b * 13 + 3) = -1
        · rw [if_neg (not_not_intro g2), if_neg (not_not_intro g2)]
          refine ⟨nI b, dMis d, rfl, ?_, Or.inr ⟨b, rfl, hb4, hub, g1, g2⟩⟩
          rw [if_neg (nI_m1 (by omega)), h.2.2.1]; rfl
        · rw [if_pos g2, if_pos g2]; exact hL
      · rw [if_pos g1, if_pos g1]; exact hL
    · rw [if_pos hub, xcu hb4 hub, if_pos (fun q => hS q.symm)]; exact hL
  · rw [xco (Or.inr (nI_le (a := 40) (by omega) (by omega))), if_pos (fun q => hS q.symm), if_pos (show (40 : Int32) ≤ nI b from nI_le (a := 40) (by omega) (by omega))]; exact hL
theorem pageC_none (n : Nat) (d : DS) (p x : Int32) : L_Finder_pageOf_21 (n + 1) d f p (-1) x = some (-1, d) := by
  rw [L_Finder_pageOf_21]
  unfold B_Finder_pageOf_55
  by_cases h0 : p ≤ x
  · rw [if_pos h0]
  · rw [if_neg h0]
    by_cases h : (40 : Int32) ≤ x
    · rw [if_pos h]
    · rw [if_neg h, if_pos rfl]
theorem pageR_none (n : Nat) (r : RS) (p x : Int32) : L_Mod_pageOf_18 (n + 1) r p (-1) x = some (-1, r) := by
  rw [L_Mod_pageOf_18]
  unfold B_Mod_pageOf_44
  by_cases h0 : p ≤ x
  · rw [if_pos h0]
  · rw [if_neg h0, if_pos (show (-1 : Int32) < 0 by decide)]
theorem R_pageL {pn : Nat} (hpn : pn < 2 ^ 31) : ∀ k c, c + k = 40 → ∀ (n n' : Nat) (d : DS) (r : RS) (i : Nat), k + 2 ≤ n → k + 2 ≤ n' → RD d r → IV B d → i < 40 → dUnr d i = 0 → dCells d (i * 13 + 1) = nI c → chn d c → c ≤ pn →
    ∃ v m, L_Finder_pageOf_21 n d f (nI pn) (nI i) (nI c) = some (v, dSMis d m) ∧ L_Mod_pageOf_18 n' r (nI pn) (nI i) (nI c) = some (v, rSFau (rSMis r m) (if v = -1 then 4 else rFau r)) ∧ (v = -1 ∨ ∃ j, v = nI j ∧ isPg d j (dCells d (i * 13)) (nI pn)) := by
  intro k
  induction k with
  | zero =>
    intro c hc n n' d r i _ _ _ _ _ _ _ hch
    rw [show c = 40 by omega] at hch
    exact (chn40 hch).elim
  | succ k ih =>
    intro c hc n n' d r i hn hn' h I hi hu hp hch hcp
    obtain ⟨a, rfl⟩ : ∃ a, n = a + 1 := ⟨n - 1, by omega⟩
    obtain ⟨b, rfl⟩ : ∃ b, n' = b + 1 := ⟨n' - 1, by omega⟩
    rw [L_Finder_pageOf_21, L_Mod_pageOf_18]
    by_cases he : pn ≤ c
    · have e : pn = c := by omega
      subst e
      rw [if_pos (Int32.le_refl _), if_pos (Int32.le_refl _)]
      refine ⟨nI i, dMis d, rfl, ?_, Or.inr ⟨i, rfl, hi, hu, rfl, hp⟩⟩
      rw [if_neg (nI_m1 (by omega)), h.2.2.1]; rfl
    · have hlt : ¬ nI pn ≤ nI c := nI_ge (by omega) hpn
      rw [if_neg hlt, if_neg hlt, if_neg (gn 40 (show c < 40 by omega)), if_neg (nI_m1 (by omega)), if_neg (nI_pos (by omega))]
      obtain ⟨v, m, e1, e2, e3⟩ := R_behind (f := f) h I hi hu
      rw [e1, e2, bnd_some]
      unfold B_Finder_pageOf_47 B_Mod_pageOf_36
      show ∃ v' m', L_Finder_pageOf_21 a (dSMis d m) f (nI pn) v (nI c + 1) = _ ∧ L_Mod_pageOf_18 b (rSFau (rSMis r m) (if v = -1 then 4 else rFau r)) (nI pn) v (nI c + 1) = _ ∧ _
      rw [nI_1]
      rcases e3 with rfl | ⟨j, rfl, j1, j2, j3, j4⟩
      · obtain ⟨a', rfl⟩ : ∃ a', a = a' + 1 := ⟨a - 1, by omega⟩
        obtain ⟨b', rfl⟩ : ∃ b', b = b' + 1 := ⟨b - 1, by omega⟩
        rw [pageC_none, pageR_none]
        exact ⟨-1, m, rfl, rfl, Or.inl rfl⟩
      · rw [if_neg (nI_m1 (by omega))]
        have hp2 : dCells d (j * 13 + 1) = nI (c + 1) := by rw [j4, hp, nI_1]
        obtain ⟨v', m', g1, g2, g3⟩ := ih (c + 1) (by omega) a b (dSMis d m) (rSFau (rSMis r m) (rFau r)) j (by omega) (by omega) (h.mis m (rKep r)) I j1 j2 hp2 (hch.next j1 hp2) (by omega)
        refine ⟨v', m', g1, ?_, ?_⟩
        · rw [g2]; rfl
        · rcases g3 with g3 | g3
          · exact Or.inl g3
          · rw [show dCells (dSMis d m) (j * 13) = dCells d (i * 13) from j3] at g3
            exact Or.inr g3
theorem R_pageOf {d : DS} {r : RS} (h : RD d r) (I : IV B d) {i j pn : Nat} (hpn : pn < 2 ^ 31) (hi : i < 40) (hu : dUnr d i = 0) (hp : dCells d (i * 13 + 1) = 0) (hj : j < 40) (hju : dUnr d j = 0) (hjs : dCells d (j * 13) = dCells d (i * 13)) :
    ∃ v m, f_Finder_pageOf d f (nI i) (nI j) (nI pn) = some (v, dSMis d m) ∧ f_Mod_pageOf r (nI i) (nI j) (nI pn) = some (v, rSFau (rSMis r m) (if v = -1 then 4 else rFau r)) ∧ (v = -1 ∨ ∃ q, v = nI q ∧ isPg d q (dCells d (i * 13)) (nI pn)) := by
  unfold f_Finder_pageOf f_Mod_pageOf
  rw [if_pos (inB_nI hj (by decide)), cl_nI (by omega), xc1 hj hju, ← h.pag hj]
  by_cases g : dCells d (j * 13 + 1) = nI pn
  · rw [if_neg (not_not_intro g), if_neg (not_not_intro g)]
    refine ⟨nI j, dMis d, rfl, ?_, Or.inr ⟨j, rfl, hj, hju, hjs, g⟩⟩
    rw [if_neg (nI_m1 (by omega)), h.2.2.1]; rfl
  · rw [if_pos g, if_pos g]
    exact R_pageL (f := f) hpn 40 0 rfl 100 1000 d r i (by decide) (by decide) h I hi hu hp (chn0 hi hp) (Nat.zero_le _)
end LP
