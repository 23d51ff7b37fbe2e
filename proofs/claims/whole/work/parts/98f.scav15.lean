/-! scavenging: an entry settled, on both sides -/
section SF2
variable {d d' : DS} {r r' : RS} {f : FS} {w : WS} {m : MS} {s : SS} {g : GS} {B : Nat} {M : Nat → Nat}
theorem pl_div {i t : Nat} (hi : i < 40) (ht : t < 2) : (nI (8 * i + 4 * t) / 8 : Int32) = nI i ∧ (nI (8 * i + 4 * t) - nI (8 * i + 4 * t) / 8 * 8 : Int32) = nI (4 * t) := by
  refine ⟨?_, ?_⟩
  · rw [show (8 : Int32) = nI 8 from rfl, pk_div (by omega) (by decide) (by decide), show (8 * i + 4 * t) / 8 = i by omega]
  · rw [show (8 : Int32) = nI 8 from rfl, pk_rem (by omega) (by decide) (by decide), show (8 * i + 4 * t) % 8 = 4 * t by omega]
theorem C_reached {b : Nat} (hb : b < 64) : f_Scav_isReached d f w m s (nI b) = (if bt (sRea s) b = true then 1 else 0, ()) := by
  unfold f_Scav_isReached
  rw [bit_at hb]
  cases g : bt (sRea s) b
  · rfl
  · rfl
theorem R_settle {rW : DS → FS → WS → MS → SS → Int32 → Int32 → Option (Unit × (DS × SS))} {i t dep : Nat} (h : SF B d s r M) (hi : i < 40) (hu : dUnr d i = 0) (ht : t < 2) :
    (∃ d' r', f_Scav_settleEntry rW d f w m s (nI (8 * i + 4 * t)) (nI dep) = some ((), (d', s)) ∧ (∀ L x2 x3, B_Mod_walk_68 L r x2 x3 (nI (8 * i + 4 * t)) = L r' x2 (x3 + 1)) ∧ SF B d' s r' M ∧ LSm d d' ∧ rS r' = rS r ∧ rRea r' = rRea r ∧ OKm d d' ∧ OKE d' i t) ∨
    (∃ fs hh d' s' r', 3 ≤ fs ∧ fs ≤ 60 ∧ hh < 40 ∧ xSearch d (nI fs) 0 = nI hh ∧ bt (sRea s) fs = false ∧ s' = sSRea s (sRea s ||| (1 <<< ((nI fs).toInt64 &&& 63))) ∧ SF B d' s' r' M ∧ LSm d d' ∧ rS r' = rS r ∧ OKm d d' ∧ OKE d' i t ∧
      ((f_Scav_settleEntry rW d f w m s (nI (8 * i + 4 * t)) (nI dep) = some ((), (d', s')) ∧ ∀ L x2 x3, B_Mod_walk_68 L r x2 x3 (nI (8 * i + 4 * t)) = L r' x2 (x3 + 1)) ∨
       (f_Scav_settleEntry rW d f w m s (nI (8 * i + 4 * t)) (nI dep) = bnd (rW d' f w m s' (nI fs) (nI (dep + 1))) (fun q => some ((), (q.2.1, q.2.2))) ∧ ∀ L x3 deep, deep < 61 → B_Mod_walk_68 L r (nI deep) x3 (nI (8 * i + 4 * t)) = L (rSRch (rSWal r' (upd (rWal r) deep (nI fs))) (upd (rRch r) deep 0)) (nI (deep + 1)) (x3 + 1)))) := by
  obtain ⟨pd1, pd2⟩ := pl_div hi ht
  obtain ⟨b, hb, eb⟩ := h.2.1.byt hi (show 4 * t + 2 < 8 by omega)
  have hR := h.1
  -- the serial of the entry
  have eC : f_Scav_serialAt d f w m s (nI (8 * i + 4 * t)) = (nI b, ()) := by
    unfold f_Scav_serialAt f_Disk_byteAt
    rw [pd2, pd1, show (nI (4 * t) + 2 : Int32) = nI (4 * t + 2) from by rw [show (2 : Int32) = nI 2 from rfl, nI_add], xcb hi (by omega) hu, eb]
  have eR : rByt r (8 * i + (4 * t + 2)) = nI b := by rw [← hR.bytF hi (by omega), eb]
  have e2 : (nI (8 * i + 4 * t) + 2 : Int32) = nI (8 * i + (4 * t + 2)) := by rw [show (2 : Int32) = nI 2 from rfl, nI_add, Nat.add_assoc]
  have e3 : (nI (8 * i + 4 * t) + 3 : Int32) = nI (8 * i + (4 * t + 3)) := by rw [show (3 : Int32) = nI 3 from rfl, nI_add, Nat.add_assoc]
  have hpos : (0 : Int32) ≤ nI (8 * i + 4 * t) := nI_pos' (by omega)
  have e68 : ∀ L x2 x3, B_Mod_walk_68 L r x2 x3 (nI (8 * i + 4 * t)) = B_Mod_walk_86 L r x2 x3 (nI (8 * i + 4 * t)) (nI b) := fun L x2 x3 => by
    unfold B_Mod_walk_68
    rw [if_pos hpos, e2, if_pos (inB_nI (show 8 * i + (4 * t + 2) < 320 by omega) (by decide)), cl_nI (by omega), eR]
  -- a hole
  obtain ⟨dh, rh, h1, h2, h3, h4, h5, h6, h7⟩ := h.hole hi hu ht
  have eH : B_Scav_settleEntry_64 rW d f w m s (nI (8 * i + 4 * t)) = some ((), (dh, s)) := by
    unfold B_Scav_settleEntry_64 B_Scav_settleEntry_79
    rw [pd2, pd1, h1]
  have e139 : ∀ L x2 x3 x5, B_Mod_walk_139 L r x2 x3 (nI (8 * i + 4 * t)) x5 = L rh x2 (x3 + 1) := fun L x2 x3 x5 => by
    unfold B_Mod_walk_139 B_Mod_walk_140 B_Mod_walk_168 B_Mod_walk_226
    rw [if_pos hpos, if_neg (not_not_intro rfl), h2, bnd_some]
  have hhole : f_Scav_settleEntry rW d f w m s (nI (8 * i + 4 * t)) (nI dep) = some ((), (dh, s)) → (∀ L x2 x3, B_Mod_walk_86 L r x2 x3 (nI (8 * i + 4 * t)) (nI b) = B_Mod_walk_139 L r x2 x3 (nI (8 * i + 4 * t)) (nI b)) → ∃ d' r', f_Scav_settleEntry rW d f w m s (nI (8 * i + 4 * t)) (nI dep) = some ((), (d', s)) ∧ (∀ L x2 x3, B_Mod_walk_68 L r x2 x3 (nI (8 * i + 4 * t)) = L r' x2 (x3 + 1)) ∧ SF B d' s r' M ∧ LSm d d' ∧ rS r' = rS r ∧ rRea r' = rRea r ∧ OKm d d' ∧ OKE d' i t := fun a1 a2 => ⟨dh, rh, a1, fun L x2 x3 => by rw [e68, a2, e139], h3, h4, rO_S h5, rT_rea (rO_T h5), h6, h7⟩
  have e30 : B_Scav_settleEntry_30 rW d f w m s (nI (8 * i + 4 * t)) (nI dep) (nI b) (-1) = some ((), (dh, s)) := by
    unfold B_Scav_settleEntry_30
    rw [if_pos rfl]; exact eH
  by_cases b3 : b < 3
  · refine Or.inl (hhole ?_ (fun L x2 x3 => ?_))
    · unfold f_Scav_settleEntry B_Scav_settleEntry_17
      rw [eC, if_pos (show (nI b, ()).1 < 3 from nI_lt (b := 3) b3 (by decide))]
      exact e30
    · unfold B_Mod_walk_86
      rw [if_pos (show nI b ≤ 2 from nI_le (b := 2) (by omega) (by decide))]
  · have n3 : ¬ (nI b, ()).1 < 3 := nI_nlt (b := 3) (by omega) (by omega)
    have n2 : ¬ nI b ≤ 2 := nI_ge (a := 2) (by omega) (by omega)
    by_cases b60 : b ≤ 60
    · have hsE : f_Scav_settleEntry rW d f w m s (nI (8 * i + 4 * t)) (nI dep) = B_Scav_settleEntry_30 rW d f w m s (nI (8 * i + 4 * t)) (nI dep) (nI b) (xSearch d (nI b) 0) := by
        unfold f_Scav_settleEntry
        rw [eC, if_neg n3, if_pos (show (nI b, ()).1 ≤ 60 from nI_le (b := 60) b60 (by decide))]
      have e86 : ∀ L x2 x3, B_Mod_walk_86 L r x2 x3 (nI (8 * i + 4 * t)) (nI b) = B_Mod_walk_100 L r x2 x3 (nI (8 * i + 4 * t)) (nI b) (if xSearch d (nI b) 0 = -1 then 0 else 1) := fun L x2 x3 => by
        unfold B_Mod_walk_86
        rw [if_neg n2, R_isThere h (by omega) b60, bnd_some]
      have hF := h.2.2.2.1.2 b (by omega) b60
      rcases hd_cases (d := d) (nI b) 0 with e | ⟨hh, hh4, e⟩
      · refine Or.inl (hhole ?_ (fun L x2 x3 => ?_))
        · rw [hsE, e]; exact e30
        · rw [e86, if_pos e]
          unfold B_Mod_walk_100
          rw [if_pos rfl]
      · obtain ⟨y, y1, y2, y3, y4, -⟩ := found (d := d) (s := nI b) (p := 0) (nI_m1 (by omega)) (by rw [e]; exact nI_m1 (by omega))
        have ey : y = hh := (nI_eq (by omega) (by omega)).mp (y2.symm.trans e)
        subst ey
        obtain ⟨na, na1, na2⟩ := X_name hR hi hu (show 4 * t < 7 by omega)
        obtain ⟨nb, nb1, nb2⟩ := X_name hR y1 y3 (show 0 < 7 by decide)
        have hhd : ∀ r', rTab r' = rTab r → f_Mod_headOf r' (nI b) = some (nI y, ()) := fun r' ht => by rw [R_headOf ht hF b60, e]
        have e100 : ∀ L x2 x3, B_Mod_walk_86 L r x2 x3 (nI (8 * i + 4 * t)) (nI b) = B_Mod_walk_122 L r x2 x3 (nI (8 * i + 4 * t)) (nI b) na nb := fun L x2 x3 => by
          rw [e86, if_neg (by rw [e]; exact nI_m1 (by omega))]
          unfold B_Mod_walk_100
          rw [if_neg (by decide), na2, bnd_some]
          unfold B_Mod_walk_109
          rw [hhd r rfl, bnd_some]
          unfold B_Mod_walk_118
          rw [show f_Mod_nameAt r (8 * (nI y, ()).1) = some (nb, ()) from by rw [show (8 * (nI y, ()).1 : Int32) = nI (8 * y + 0) from by8 y]; exact nb2, bnd_some]
        have enC : f_Scav_nameAt d f w m s (nI (8 * i + 4 * t)) = (na, ()) := by
          unfold f_Scav_nameAt
          rw [pd2, pd1, na1]
        have hV6 := h.2.2.2.2.2.2.2.2.2 b (by omega) b60
        have e30' : B_Scav_settleEntry_30 rW d f w m s (nI (8 * i + 4 * t)) (nI dep) (nI b) (nI y) = if ¬ (if bt (sRea s) b = true then (1 : Int32) else 0) = 0 then some ((), (dh, s)) else if nb = na then B_Scav_settleEntry_99 rW ((f_Disk_setByte d (nI i) (nI (4 * t) + 3) (nI y)).2) f w m s (nI dep) (nI b) (nI y) else some ((), (dh, s)) := by
          unfold B_Scav_settleEntry_30
          rw [if_neg (nI_m1 (by omega)), C_reached (by omega), show f_Disk_nameAt d (nI y) 0 = (nb, ()) from nb1, enC, eH, pd2, pd1]
        cases hre : bt (sRea s) b
        · rw [hre] at e30' hV6
          rw [if_neg (not_not_intro (show (if false = true then (1 : Int32) else 0) = 0 from rfl))] at e30'
          have hr0 : rRea r b = 0 := by
            apply Classical.byContradiction
            intro z
            exact absurd (hV6.mpr z) (by decide)
          by_cases en : nb = na
          · right
            rw [if_pos en, show (nI (4 * t) + 3 : Int32) = nI (4 * t + 3) from by rw [show (3 : Int32) = nI 3 from rfl, nI_add], C_setb hi (by omega) hu, b255' (by omega)] at e30'
            -- the reference
            have R1' : upd (rRea r) b (vp_nar .boolean 1) b = 1 := pk_us
            have R2' : ∀ a, a ≠ b → upd (rRea r) b (vp_nar .boolean 1) a = rRea r a := fun a ha => pk_un ha
            have e122 : ∀ L x2 x3, B_Mod_walk_68 L r x2 x3 (nI (8 * i + 4 * t)) = B_Mod_walk_179 L (rSRea r (upd (rRea r) b (vp_nar .boolean 1))) x2 x3 (nI (8 * i + 4 * t)) (nI b) := fun L x2 x3 => by
              rw [e68, e100]
              unfold B_Mod_walk_122
              rw [if_neg (not_not_intro en.symm), if_pos (inB_nI (show b < 61 by omega) (by decide)), cl_nI (by omega), hr0, if_neg (not_not_intro rfl)]
              unfold B_Mod_walk_140
              rw [if_pos hpos, if_pos (by decide), if_pos (inB_nI (show b < 61 by omega) (by decide)), cl_nI (by omega)]
            generalize upd (rRea r) b (vp_nar .boolean 1) = R at R1' R2' e122
            have h0 : SF B d (sSRea s (sRea s ||| (1 <<< ((nI b).toInt64 &&& 63)))) (rSRea r R) M := by
              refine ⟨hR.rea R, h.2.1, h.2.2.1, h.2.2.2.1.lab (fun _ _ _ _ => rfl) rfl (Tab_Rea r R) (Man_Rea r R), ?_⟩
              obtain ⟨v1, v2, v3, v4, v5, v6⟩ := h.2.2.2.2
              unfold SV
              rw [Rep_Rea, Rea_Rea]
              refine ⟨v1, v2, v3, v4, v5, fun k k1 k2 => ?_⟩
              show bt (sRea s ||| (1 <<< ((nI b).toInt64 &&& 63))) k = true ↔ _
              rw [bt_or, bt_oneS b (by omega) k (by omega), Bool.or_eq_true, decide_eq_true_iff]
              by_cases ek : k = b
              · subst ek
                rw [R1']
                exact ⟨fun _ => by decide, fun _ => Or.inr rfl⟩
              · rw [R2' k ek, ← v6 k k1 k2]
                exact ⟨fun z => z.elim id (fun z => absurd z ek), Or.inl⟩
            have h9 := h0.set (i := i) (k := 4 * t + 3) (b := y) hi (by omega) (by omega)
            have hS9 : rS (rSet (rSRea r R) i (5 + (4 * t + 3)) (nI y)) = rS r := (rO_S (rSet_O _ _ _ _)).trans (rS_rea r R)
            have hT9 : rTab (rSet (rSRea r R) i (5 + (4 * t + 3)) (nI y)) = rTab r := (rT_tab (rO_T (rSet_O _ _ _ _))).trans (Tab_Rea r R)
            have e179 : ∀ L x2 x3, B_Mod_walk_68 L r x2 x3 (nI (8 * i + 4 * t)) = B_Mod_walk_194 L (rSet (rSRea r R) i (5 + (4 * t + 3)) (nI y)) x2 x3 (nI b) := fun L x2 x3 => by
              rw [e122]
              unfold B_Mod_walk_179
              rw [hhd _ (Tab_Rea r R), bnd_some]
              unfold B_Mod_walk_193
              rw [e3, if_pos (inB_nI (show 8 * i + (4 * t + 3) < 320 by omega) (by decide)), cl_nI (by omega), ← rSetb]
            have hls : LSm d (dSet d i (5 + (4 * t + 3)) (nI y)) := LSm.set (by omega) (by omega) _ hu
            have hk1 : OKm d (dSet d i (5 + (4 * t + 3)) (nI y)) := fun j t' hj ht' q => by
              unfold OKE
              rw [dSet_at (by omega) (by omega), dSet_at (by omega) (by omega), dSet_at (by omega) (by omega), if_neg (by omega), if_neg (by omega), if_neg (by omega)]
              exact q
            have hk2 : OKE (dSet d i (5 + (4 * t + 3)) (nI y)) i t := by
              unfold OKE
              rw [dSet_at (by omega) (by omega), if_neg (by omega), eb]
              exact fun z => absurd ((nI_eq (a := b) (b := 0) (by omega) (by decide)).mp z) (by omega)
            generalize rSet (rSRea r R) i (5 + (4 * t + 3)) (nI y) = r9 at h9 hS9 hT9 e179
            rw [hsE, e, e30']
            show ∃ fs hh d' s' r', _
            have hd9 : dUnr (dSet d i (5 + (4 * t + 3)) (nI y)) = dUnr d := rfl
            generalize dSet d i (5 + (4 * t + 3)) (nI y) = d9 at h9 hls hd9 hk1 hk2
            obtain ⟨bd, bd1, bd2, bd3⟩ := X_isDir h9.1 y1 (by rw [hd9]; exact y3)
            have e194 : ∀ L x2 x3, B_Mod_walk_194 L r9 x2 x3 (nI b) = B_Mod_walk_204 L r9 x2 x3 (nI b) bd := fun L x2 x3 => by
              unfold B_Mod_walk_194
              rw [hhd r9 hT9, bnd_some]
              unfold B_Mod_walk_201
              rw [show f_Mod_isDirectory r9 (nI y, ()).1 = _ from bd2, bnd_some]
            refine ⟨b, y, d9, _, r9, by omega, b60, y1, e, hre, rfl, h9, hls, hS9, hk1, hk2, ?_⟩
            unfold B_Scav_settleEntry_99 B_Scav_settleEntry_131
            rw [bd1]
            rcases bd3 with rfl | rfl
            · refine Or.inl ⟨by rw [if_pos rfl], fun L x2 x3 => ?_⟩
              rw [e179, e194]
              unfold B_Mod_walk_204 B_Mod_walk_226
              rw [if_pos rfl]
            · refine Or.inr ⟨?_, fun L x3 deep hdp => ?_⟩
              · rw [if_neg (show ¬ ((1 : Int32), ()).1 = 0 from (by decide : ¬ (1 : Int32) = 0)), nI_1]
              · rw [e179, e194]
                unfold B_Mod_walk_204 B_Mod_walk_215 B_Mod_walk_222 B_Mod_walk_226
                have w1 : rWal r9 = rWal r := congrArg (fun z => z.1) hS9
                have w2 : rRch r9 = rRch r := congrArg (fun z => z.2.1) hS9
                rw [if_neg (by decide), if_pos (inB_nI hdp (by decide)), if_pos (inB_nI hdp (by decide)), cl_nI (by omega), nI_1, w1, Rch_Wal, w2]
          · left
            rw [if_neg en] at e30'
            refine hhole (by rw [hsE, e, e30']) (fun L x2 x3 => ?_)
            rw [e100]
            unfold B_Mod_walk_122
            rw [if_pos (fun z => en z.symm)]
        · rw [hre] at e30' hV6
          rw [if_pos (show ¬ (if true = true then (1 : Int32) else 0) = 0 from (by decide : ¬ (1 : Int32) = 0))] at e30'
          refine Or.inl (hhole (by rw [hsE, e, e30']) (fun L x2 x3 => ?_))
          rw [e100]
          unfold B_Mod_walk_122
          by_cases z : na = nb
          · rw [if_neg (not_not_intro z), if_pos (inB_nI (show b < 61 by omega) (by decide)), cl_nI (by omega), if_pos (hV6.mp rfl)]
          · rw [if_pos z]
    · refine Or.inl (hhole ?_ (fun L x2 x3 => ?_))
      · unfold f_Scav_settleEntry B_Scav_settleEntry_17
        rw [eC, if_neg n3, if_neg (show ¬ (nI b, ()).1 ≤ 60 from nI_ge (a := 60) (by omega) (by omega))]
        exact e30
      · unfold B_Mod_walk_86 f_Mod_isThere B_Mod_isThere_22
        rw [if_neg n2, if_pos ((inab (nI b) 1 60).mpr (Or.inr (show (60 : Int32) < nI b from nI_lt (a := 60) (by omega) (by omega)))), bnd_some]
        unfold B_Mod_walk_100
        rw [if_pos rfl]
end SF2
