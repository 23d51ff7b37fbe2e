/-! scavenging: sectors that have changed -/
section RI5
variable {d d' d0 : DS} {r r' r0 : RS} {f : FS} {w : WS} {m : MS} {s s' : SS} {g : GS} {B : Nat} {M : Nat → Nat}
theorem C_chgL {x : Nat} (hx : x < 40) : ∀ j k, k + j = 13 → ∀ n, j < n → (L_Disk_hasChanged_2 n d (nI x) (nI k) = some (0, ()) ∧ ∀ q, k ≤ q → q < 13 → dCells d (x * 13 + q) = dEarl d (x * 13 + q)) ∨ (L_Disk_hasChanged_2 n d (nI x) (nI k) = some (1, ()) ∧ ∃ q, q < 13 ∧ ¬ dCells d (x * 13 + q) = dEarl d (x * 13 + q)) := by
  intro j
  induction j with
  | zero =>
    intro k hk n hn
    obtain ⟨n, rfl⟩ : ∃ n', n = n' + 1 := ⟨n - 1, by omega⟩
    obtain rfl : k = 13 := by omega
    refine Or.inl ⟨?_, fun q a b => absurd b (by omega)⟩
    unfold L_Disk_hasChanged_2
    rw [if_pos (by decide)]
  | succ j ih =>
    intro k hk n hn
    obtain ⟨n, rfl⟩ : ∃ n', n = n' + 1 := ⟨n - 1, by omega⟩
    have e : L_Disk_hasChanged_2 (n + 1) d (nI x) (nI k) = if dCells d (x * 13 + k) = dEarl d (x * 13 + k) then L_Disk_hasChanged_2 n d (nI x) (nI (k + 1)) else some (1, ()) := by
      have e1 : (nI x * 13 + nI k : Int32) = nI (x * 13 + k) := by rw [show (13 : Int32) = nI 13 from rfl, pk_mul, nI_add]
      show (if (13 : Int32) ≤ nI k then _ else _) = _
      rw [if_neg (show ¬ (13 : Int32) ≤ nI k from nI_ge (b := 13) (by omega) (by decide)), e1, if_pos (inB_nI (show x * 13 + k < 520 by omega) (by decide)), if_pos (inB_nI (show x * 13 + k < 520 by omega) (by decide)), cl_nI (by omega), nI_1]
    rw [e]
    by_cases q : dCells d (x * 13 + k) = dEarl d (x * 13 + k)
    · rw [if_pos q]
      rcases ih (k + 1) (by omega) n (by omega) with ⟨a, b⟩ | ⟨a, b⟩
      · refine Or.inl ⟨a, fun p p1 p2 => ?_⟩
        by_cases ep : p = k
        · rw [ep]; exact q
        · exact b p (by omega) p2
      · exact Or.inr ⟨a, b⟩
    · rw [if_neg q]
      exact Or.inr ⟨rfl, k, by omega, q⟩
theorem R_oth1 {x : Nat} (hx : x < 40) : ∀ j b, b + j = 8 * x + 8 → ∀ n, j < n → L_Mod_isOther_99 n r (nI x) 1 (nI b) = some (1, ()) := by
  have e8 : (8 * nI x + 8 : Int32) = nI (8 * x + 8) := ix8 x 8
  intro j
  induction j with
  | zero =>
    intro b hb n hn
    obtain ⟨n, rfl⟩ : ∃ n', n = n' + 1 := ⟨n - 1, by omega⟩
    unfold L_Mod_isOther_99
    rw [e8, if_pos (nI_le (by omega) (by omega))]; rfl
  | succ j ih =>
    intro b hb n hn
    obtain ⟨n, rfl⟩ : ∃ n', n = n' + 1 := ⟨n - 1, by omega⟩
    unfold L_Mod_isOther_99
    rw [e8, if_neg (nI_ge (by omega) (by omega)), if_pos (by decide)]
    unfold B_Mod_isOther_133 B_Mod_isOther_138
    rw [nI_1]
    exact ih (b + 1) (by omega) n (by omega)
theorem R_oth0 {x : Nat} (hx : x < 40) : ∀ j b, b + j = 8 * x + 8 → 8 * x ≤ b → ∀ n, j < n → (L_Mod_isOther_99 n r (nI x) 0 (nI b) = some (0, ()) ∧ ∀ q, b ≤ q → q < 8 * x + 8 → rWas r (200 + q) = rByt r q) ∨ (L_Mod_isOther_99 n r (nI x) 0 (nI b) = some (1, ()) ∧ ∃ q, 8 * x ≤ q ∧ q < 8 * x + 8 ∧ ¬ rWas r (200 + q) = rByt r q) := by
  have e8 : (8 * nI x + 8 : Int32) = nI (8 * x + 8) := ix8 x 8
  intro j
  induction j with
  | zero =>
    intro b hb hb8 n hn
    obtain ⟨n, rfl⟩ : ∃ n', n = n' + 1 := ⟨n - 1, by omega⟩
    refine Or.inl ⟨?_, fun q a c => absurd c (by omega)⟩
    unfold L_Mod_isOther_99
    rw [e8, if_pos (nI_le (by omega) (by omega))]; rfl
  | succ j ih =>
    intro b hb hb8 n hn
    obtain ⟨n, rfl⟩ : ∃ n', n = n' + 1 := ⟨n - 1, by omega⟩
    have e : L_Mod_isOther_99 (n + 1) r (nI x) 0 (nI b) = if rWas r (200 + b) = rByt r b then L_Mod_isOther_99 n r (nI x) 0 (nI (b + 1)) else L_Mod_isOther_99 n r (nI x) 1 (nI (b + 1)) := by
      have e2 : (200 + nI b : Int32) = nI (200 + b) := nI_off 200
      show (if (8 * nI x + 8 : Int32) ≤ nI b then _ else _) = _
      rw [e8, if_neg (nI_ge (by omega) (by omega)), if_neg (by decide), e2, if_pos (inB_nI (show 200 + b < 600 by omega) (by decide)), if_pos (inB_nI (show b < 320 by omega) (by decide)), cl_nI (by omega), cl_nI (by omega)]
      unfold B_Mod_isOther_133 B_Mod_isOther_138
      rw [nI_1]
    rw [e]
    by_cases q : rWas r (200 + b) = rByt r b
    · rw [if_pos q]
      rcases ih (b + 1) (by omega) (by omega) n (by omega) with ⟨a, c⟩ | ⟨a, c⟩
      · refine Or.inl ⟨a, fun p p1 p2 => ?_⟩
        by_cases ep : p = b
        · rw [ep]; exact q
        · exact c p (by omega) p2
      · exact Or.inr ⟨a, c⟩
    · rw [if_neg q]
      exact Or.inr ⟨R_oth1 hx j (b + 1) (by omega) n (by omega), b, hb8, by omega, q⟩
theorem R_other {x : Nat} (hx : x < 40) : (f_Mod_isOther r (nI x) = some (0, ()) ∧ ∀ k, k < 13 → rWas r (wIx x k) = rC r x k) ∨ (f_Mod_isOther r (nI x) = some (1, ()) ∧ ∃ k, k < 13 ∧ ¬ rWas r (wIx x k) = rC r x k) := by
  have e88 : B_Mod_isOther_88 r (nI x) = some (1, ()) := by
    unfold B_Mod_isOther_88 B_Mod_isOther_93
    rw [by8]
    exact R_oth1 hx 8 (8 * x) (by omega) 1000 (by omega)
  have e93 : B_Mod_isOther_93 r (nI x) 0 = L_Mod_isOther_99 1000 r (nI x) 0 (nI (8 * x)) := by
    unfold B_Mod_isOther_93
    rw [by8]
  unfold f_Mod_isOther
  rw [show (40 + nI x : Int32) = nI (40 + x) from nI_off 40, show (80 + nI x : Int32) = nI (80 + x) from nI_off 80, show (120 + nI x : Int32) = nI (120 + x) from nI_off 120, show (160 + nI x : Int32) = nI (160 + x) from nI_off 160, if_pos (inB_nI (show x < 600 by omega) (by decide)), if_pos (inB_nI (show 40 + x < 600 by omega) (by decide)), if_pos (inB_nI (show 80 + x < 600 by omega) (by decide)), if_pos (inB_nI (show 120 + x < 600 by omega) (by decide)), if_pos (inB_nI (show 160 + x < 600 by omega) (by decide)), e88, e93]
  rw [if_pos (inB_nI (show x < 40 by omega) (by decide)), if_pos (inB_nI (show x < 40 by omega) (by decide)), if_pos (inB_nI (show x < 40 by omega) (by decide)), if_pos (inB_nI (show x < 40 by omega) (by decide)), if_pos (inB_nI (show x < 40 by omega) (by decide)), cl_nI (by omega), cl_nI (by omega), cl_nI (by omega), cl_nI (by omega), cl_nI (by omega)]
  by_cases q0 : rWas r x = rSer r x
  · rw [if_neg (not_not_intro q0)]
    by_cases q1 : rWas r (40 + x) = rPag r x
    · rw [if_neg (not_not_intro q1)]
      by_cases q2 : rWas r (80 + x) = rUse r x
      · rw [if_neg (not_not_intro q2)]
        by_cases q3 : rWas r (120 + x) = rNex r x
        · rw [if_neg (not_not_intro q3)]
          by_cases q4 : rWas r (160 + x) = rBef r x
          · rw [if_pos q4]
            rcases R_oth0 (r := r) hx 8 (8 * x) (by omega) (Nat.le_refl _) 1000 (by omega) with ⟨a, c⟩ | ⟨a, q, c1, c2, c3⟩
            · refine Or.inl ⟨a, fun k hk => ?_⟩
              rcases (show k = 0 ∨ k = 1 ∨ k = 2 ∨ k = 3 ∨ k = 4 ∨ 5 ≤ k by omega) with rfl | rfl | rfl | rfl | rfl | h5
              · exact (congrArg (rWas r) (show wIx x 0 = x by unfold wIx; rw [if_pos (by decide)]; omega)).trans q0
              · exact (congrArg (rWas r) (show wIx x 1 = 40 + x by unfold wIx; rw [if_pos (by decide)])).trans q1
              · exact (congrArg (rWas r) (show wIx x 2 = 80 + x by unfold wIx; rw [if_pos (by decide)])).trans q2
              · exact (congrArg (rWas r) (show wIx x 3 = 120 + x by unfold wIx; rw [if_pos (by decide)])).trans q3
              · exact (congrArg (rWas r) (show wIx x 4 = 160 + x by unfold wIx; rw [if_pos (by decide)])).trans q4
              · obtain ⟨t, rfl⟩ : ∃ t, k = 5 + t := ⟨k - 5, by omega⟩
                rw [rC_byt, show wIx x (5 + t) = 200 + (8 * x + t) from by unfold wIx; rw [if_neg (by omega)]; omega]
                exact c (8 * x + t) (by omega) (by omega)
            · refine Or.inr ⟨a, 5 + (q - 8 * x), by omega, ?_⟩
              rw [rC_byt, show wIx x (5 + (q - 8 * x)) = 200 + q from by unfold wIx; rw [if_neg (by omega)]; omega, show 8 * x + (q - 8 * x) = q by omega]
              exact c3
          · rw [if_neg q4]
            exact Or.inr ⟨rfl, 4, by decide, fun z => q4 ((congrArg (rWas r) (show 160 + x = wIx x 4 by unfold wIx; rw [if_pos (by decide)])).trans z)⟩
        · rw [if_pos q3]
          exact Or.inr ⟨rfl, 3, by decide, fun z => q3 ((congrArg (rWas r) (show 120 + x = wIx x 3 by unfold wIx; rw [if_pos (by decide)])).trans z)⟩
      · rw [if_pos q2]
        exact Or.inr ⟨rfl, 2, by decide, fun z => q2 ((congrArg (rWas r) (show 80 + x = wIx x 2 by unfold wIx; rw [if_pos (by decide)])).trans z)⟩
    · rw [if_pos q1]
      exact Or.inr ⟨rfl, 1, by decide, fun z => q1 ((congrArg (rWas r) (show 40 + x = wIx x 1 by unfold wIx; rw [if_pos (by decide)])).trans z)⟩
  · rw [if_pos q0]
    exact Or.inr ⟨rfl, 0, by decide, fun z => q0 ((congrArg (rWas r) (show x = wIx x 0 by unfold wIx; rw [if_pos (by decide)]; omega)).trans z)⟩
theorem R_chgL (h : RD d r) (hW : ∀ i, i < 40 → ∀ k, k < 13 → dEarl d (i * 13 + k) = rWas r (wIx i k)) (hU : ∀ i, i < 40 → ¬ dUnr d i = 0 → ∀ k, k < 13 → dCells d (i * 13 + k) = dEarl d (i * 13 + k)) : ∀ j x, x + j = 40 → ∀ n1 n2, j < n1 → j < n2 → ∀ (c : Nat) T, T 4 = nI c → ∃ c' T', L_Disk_countChanged_4 n1 d (nI c) (nI x) = some (nI c', dSWri d (dWri d + nI c')) ∧ L_Mod_scavenge_144 n2 (rSRep r T) (nI x) = some (T 0, rSWri (rSRep r T') (rWri r + nI c')) ∧ T' 4 = nI c' ∧ ∀ k, k ≠ 4 → T' k = T k := by
  intro j
  induction j with
  | zero =>
    intro x hx n1 n2 hn1 hn2 c T hT
    obtain ⟨n1, rfl⟩ : ∃ n', n1 = n' + 1 := ⟨n1 - 1, by omega⟩
    obtain ⟨n2, rfl⟩ : ∃ n', n2 = n' + 1 := ⟨n2 - 1, by omega⟩
    obtain rfl : x = 40 := by omega
    refine ⟨c, T, ?_, ?_, hT, fun _ _ => rfl⟩
    · unfold L_Disk_countChanged_4
      rw [if_pos (by decide)]
    · unfold L_Mod_scavenge_144
      rw [if_pos (by decide), if_pos (by decide), Rep_Rep, show T (4 : Int32).toNatClampNeg = nI c from hT, show rWri (rSRep r T) = rWri r from congrArg (fun z => z.2.2.2.1) (I_Rep r T)]
      unfold B_Mod_scavenge_211
      rw [if_pos (by decide)]
      show some (rRep (rSRep r T) 0, _) = _
      rw [Rep_Rep]
  | succ j ih =>
    intro x hx n1 n2 hn1 hn2 c T hT
    obtain ⟨n1, rfl⟩ : ∃ n', n1 = n' + 1 := ⟨n1 - 1, by omega⟩
    obtain ⟨n2, rfl⟩ : ∃ n', n2 = n' + 1 := ⟨n2 - 1, by omega⟩
    have hx4 : x < 40 := by omega
    -- the two steps
    have hC : ∀ b : Int32, f_Disk_hasChanged d (nI x) = some (b, ()) → L_Disk_countChanged_4 (n1 + 1) d (nI c) (nI x) = if b = 0 then L_Disk_countChanged_4 n1 d (nI c) (nI (x + 1)) else L_Disk_countChanged_4 n1 d (nI (c + 1)) (nI (x + 1)) := fun b hb => by
      show (if (40 : Int32) ≤ nI x then _ else _) = _
      rw [if_neg (show ¬ (40 : Int32) ≤ nI x from nI_ge (b := 40) (by omega) (by decide)), hb, bnd_some]
      unfold B_Disk_countChanged_16 B_Disk_countChanged_24
      rw [nI_1, nI_1, Int32.add_zero]
    have h0 : L_Mod_scavenge_144 n2 (rSRep (rSRep r T) (upd (rRep (rSRep r T)) 4 (rRep (rSRep r T) 4))) (nI (x + 1)) = L_Mod_scavenge_144 n2 (rSRep r T) (nI (x + 1)) := by
      rw [Rep_Rep, S_Rep_Rep]
      congr 2
      funext a
      by_cases e : a = 4
      · rw [e, pk_us]
      · rw [pk_un e]
    have h1 : L_Mod_scavenge_144 n2 (rSRep (rSRep r T) (upd (rRep (rSRep r T)) 4 (rRep (rSRep r T) 4 + 1))) (nI (x + 1)) = L_Mod_scavenge_144 n2 (rSRep r (upd T 4 (nI (c + 1)))) (nI (x + 1)) := by
      rw [Rep_Rep, S_Rep_Rep, hT, nI_1]
    have hR0 : B_Mod_scavenge_183 (L_Mod_scavenge_144 n2) (rSRep r T) (nI x) 4 = L_Mod_scavenge_144 n2 (rSRep r T) (nI (x + 1)) := by
      rw [← h0]
      unfold B_Mod_scavenge_183 B_Mod_scavenge_189 B_Mod_scavenge_190
      rw [if_pos (by decide), if_pos (by decide), nI_1]
      rfl
    have hbad : rBad (rSRep r T) x = dUnr d x := by rw [Bad_Rep]; exact (h.bad hx4).symm
    have hR : L_Mod_scavenge_144 (n2 + 1) (rSRep r T) (nI x) = if ¬ dUnr d x = 0 then L_Mod_scavenge_144 n2 (rSRep r T) (nI (x + 1)) else bnd (f_Mod_isOther (rSRep r T) (nI x)) (fun q => B_Mod_scavenge_169 (L_Mod_scavenge_144 n2) (rSRep r T) (nI x) 4 q.1) := by
      show (if (40 : Int32) ≤ nI x then _ else _) = _
      rw [if_neg (show ¬ (40 : Int32) ≤ nI x from nI_ge (b := 40) (by omega) (by decide)), if_pos (inB_nI hx4 (by decide)), cl_nI (by omega), hbad, hR0]
    have hsame : ∀ b : Int32, f_Disk_hasChanged d (nI x) = some (b, ()) → b = 0 → L_Mod_scavenge_144 (n2 + 1) (rSRep r T) (nI x) = L_Mod_scavenge_144 n2 (rSRep r T) (nI (x + 1)) → ∃ c' T', L_Disk_countChanged_4 (n1 + 1) d (nI c) (nI x) = some (nI c', dSWri d (dWri d + nI c')) ∧ L_Mod_scavenge_144 (n2 + 1) (rSRep r T) (nI x) = some (T 0, rSWri (rSRep r T') (rWri r + nI c')) ∧ T' 4 = nI c' ∧ ∀ k, k ≠ 4 → T' k = T k := fun b hb b0 e => by
      rw [hC b hb, if_pos b0, e]
      exact ih (x + 1) (by omega) n1 n2 (by omega) (by omega) c T hT
    by_cases u : dUnr d x = 0
    · rw [if_neg (not_not_intro u)] at hR
      rcases R_other (r := rSRep r T) hx4 with ⟨o1, o2⟩ | ⟨o1, k, o2, o3⟩
      · have hC0 : f_Disk_hasChanged d (nI x) = some (0, ()) := by
          rcases C_chgL (d := d) hx4 13 0 (by omega) 100 (by omega) with ⟨a, -⟩ | ⟨-, q, q1, q2⟩
          · exact a
          · exfalso
            apply q2
            have := o2 q q1
            rw [Was_Rep, rC_cg (Ser_Rep r T) (Pag_Rep r T) (Use_Rep r T) (Nex_Rep r T) (Bef_Rep r T) (Byt_Rep r T)] at this
            rw [h.1 x hx4 q q1, hW x hx4 q q1, this]
        refine hsame 0 hC0 rfl ?_
        rw [hR, o1, bnd_some]
        unfold B_Mod_scavenge_169
        rw [if_pos rfl, hR0]
      · have hC1 : f_Disk_hasChanged d (nI x) = some (1, ()) := by
          rcases C_chgL (d := d) hx4 13 0 (by omega) 100 (by omega) with ⟨-, a⟩ | ⟨a, -⟩
          · exfalso
            apply o3
            rw [Was_Rep, rC_cg (Ser_Rep r T) (Pag_Rep r T) (Use_Rep r T) (Nex_Rep r T) (Bef_Rep r T) (Byt_Rep r T), ← hW x hx4 k o2, ← h.1 x hx4 k o2]
            exact (a k (Nat.zero_le _) o2).symm
          · exact a
        obtain ⟨c', T', g1, g2, g3, g4⟩ := ih (x + 1) (by omega) n1 n2 (by omega) (by omega) (c + 1) (upd T 4 (nI (c + 1))) pk_us
        refine ⟨c', T', ?_, ?_, g3, fun k hk => by rw [g4 k hk, pk_un hk]⟩
        · rw [hC 1 hC1, if_neg (by decide)]; exact g1
        · rw [hR, o1, bnd_some]
          unfold B_Mod_scavenge_169
          rw [if_neg (show ¬ ((1 : Int32), ()).1 = 0 from (by decide : ¬ (1 : Int32) = 0)), if_pos (by decide)]
          unfold B_Mod_scavenge_189 B_Mod_scavenge_190
          rw [if_pos (by decide), nI_1]
          refine (h1.trans g2).trans ?_
          rw [pk_un (by decide)]
    · rw [if_pos u] at hR
      have hC0 : f_Disk_hasChanged d (nI x) = some (0, ()) := by
        rcases C_chgL (d := d) hx4 13 0 (by omega) 100 (by omega) with ⟨a, -⟩ | ⟨-, q, q1, q2⟩
        · exact a
        · exact absurd (hU x hx4 u q q1) q2
      exact hsame 0 hC0 rfl hR
end RI5
