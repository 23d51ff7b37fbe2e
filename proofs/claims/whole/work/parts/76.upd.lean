/-! freeing a sector; the map written at the end of a call -/
theorem rQ_P {r r' : RS} (h : rQ r' = rQ r) : rP r' = rP r := congrArg (fun z => (z.1.2.2.2.2.2.2.2.2.2.1, z.1.2.2.2.2.2.2.2.2.2.2.1, z.2.1, z.2.2.2.1, z.2.2.2.2.1, z.2.2.2.2.2.1, z.2.2.2.2.2.2.1, z.2.2.2.2.2.2.2.1, z.2.2.2.2.2.2.2.2)) h
theorem rQ_a {r r' : RS} (h : rQ r' = rQ r) : r'.1 = r.1 := congrArg (fun z => z.1) h
theorem rQ_kep {r r' : RS} (h : rQ r' = rQ r) : rKep r' = rKep r := congrArg (fun z => z.1.2.2.2.2.2.2.2.1) h
theorem rQ_mar {r r' : RS} (h : rQ r' = rQ r) : rMar r' = rMar r := congrArg (fun z => z.1.2.2.2.2.2.2.2.2.1) h
theorem rQ_map {r r' : RS} (h : rQ r' = rQ r) : rMap r' = rMap r := congrArg (fun z => z.2.2.1) h
theorem rQ_fau {r r' : RS} (h : rQ r' = rQ r) : rFau r' = rFau r := congrArg (fun z => z.2.1) h
theorem rO_P {r r' : RS} (h : rO r' = rO r) : rP r' = rP r := congrArg (fun z => (z.1.2.2.2.1, z.1.2.2.2.2.1, z.2.2.1, z.2.2.2.2.2.2.2.2.1, z.2.2.2.2.2.2.2.2.2.1, z.2.2.2.2.2.2.2.2.2.2.1, z.2.2.2.2.2.2.2.2.2.2.2.1, z.2.2.2.2.2.2.2.2.2.2.2.2.1, z.2.2.2.2.2.2.2.2.2.2.2.2.2)) h
theorem rO_kep {r r' : RS} (h : rO r' = rO r) : rKep r' = rKep r := congrArg (fun z => z.1.2.1) h
theorem rO_map {r r' : RS} (h : rO r' = rO r) : rMap r' = rMap r := congrArg (fun z => z.2.2.2.2.2.2.2.1) h
theorem rO_fau {r r' : RS} (h : rO r' = rO r) : rFau r' = rFau r := congrArg (fun z => z.2.2.1) h
theorem rP_fau {r r' : RS} (h : rP r' = rP r) : rFau r' = rFau r := congrArg (fun z => z.2.2.1) h
theorem rP_rep {r r' : RS} (h : rP r' = rP r) : rRep r' = rRep r := congrArg (fun z => z.1) h
section UP
variable {d : DS} {r r' : RS} {f : FS} {w : WS} {m : MS} {B : Nat}
theorem MR.un {d' : DS} (h : MR d m r) (hu : dUnr d' = dUnr d) : MR d' m r := ⟨by rw [hu]; exact h.1, h.2⟩
theorem TK.un {d' : DS} {c : Nat} (h : TK d m r c) (hu : ∀ a, a < 40 → xFree d (nI a) = true → xFree d' (nI a) = true) : TK d' m r c := by
  rcases h with ⟨rfl, a1, a2, a3⟩ | ⟨rfl, a, a1, a2, a3, a4, a5, a6⟩ | ⟨rfl, a, b, a1, a2, a3, a4, a5, a6, a7, a8, a9, a10⟩
  · exact Or.inl ⟨rfl, a1, a2, a3⟩
  · exact Or.inr (Or.inl ⟨rfl, a, a1, hu a a1 a2, a3, a4, a5, a6⟩)
  · exact Or.inr (Or.inr ⟨rfl, a, b, a1, a2, a3, hu a a1 a4, hu b a2 a5, a6, a7, a8, a9, a10⟩)
theorem free_dark (x : Int32) (h : rFau r = 1) : f_Mod_free r x = some ((), r) := by
  unfold f_Mod_free B_Mod_free_4 B_Mod_free_19
  rw [wr_dark h, if_pos rfl]
theorem R_release {i : Nat} (h : RD d r) (hfa : rFau r = 0) (hM : MR d m r) (ht : mTak m = 0) (hi : i < 40) (hu : dUnr d i = 0) : (f_Map_release d f w m (nI i) = (.inl 1, (dSPow d 0, m)) ∧ f_Mod_free r (nI i) = some ((), rSFau (rSDar r 1) 1) ∧ RD (dSPow d 0) (rSFau (rSDar r 1) 1)) ∨
    (∃ d' m' r', f_Map_release d f w m (nI i) = (.inr (), (d', m')) ∧ f_Mod_free r (nI i) = some ((), r') ∧ RD d' r' ∧ MR d' m' r' ∧ mTak m' = 0 ∧ DU d d' i eV ∧ rP r' = rP r ∧ rKep r' = rKep r) := by
  unfold f_Map_release f_Mod_free
  rcases R_writes h hfa with ⟨e1, e2, e3⟩ | ⟨d1, r1, e1, e2, e3, c1, c2, c3, c4, c5⟩
  · rw [e1, e2]
    exact Or.inl ⟨rfl, rfl, e3⟩
  · rw [e1, e2, thM_r]
    unfold B_Map_release_7 B_Map_release_15 B_Mod_free_4 B_Mod_free_12 B_Mod_free_19
    have hu1 : dUnr d1 i = 0 := by rw [c3]; exact hu
    obtain ⟨r2, g1, g2⟩ := R_empty r1 hi
    have g3 := C_erase (d := d1) hi hu1
    rw [if_neg (show ¬ ((1 : Int32), r1).1 = 0 from (by decide : ¬ (1 : Int32) = 0)), g1, bnd_some, if_pos (inB_nI hi (by decide)), cl_nI (by omega)]
    have g4 : RD (xErase d1 (nI i)) r2 := e3.row g3 g2
    refine Or.inr ⟨_, _, _, rfl, rfl, g4.mar _, ⟨?_, fun q hq => ?_⟩, ht, ⟨fun j hj k hk => by rw [g3.1 j hj k hk, c1], g3.unr.trans c3⟩, (rO_P g2.2).trans (rQ_P c5), (rO_kep g2.2).trans (rQ_kep c5)⟩
    · have hm : rMap r2 = rMap r := (rO_map g2.2).trans (rQ_map c5)
      show (mPag m = -1 ∧ rMap r2 = -1) ∨ ∃ p, p < 40 ∧ dUnr (xErase d1 (nI i)) p = 0 ∧ mPag m = nI p ∧ rMap r2 = nI p
      rw [hm, g3.unr, c3]; exact hM.1
    · show (upd (rMar r2) i 3 q = 0 ∧ bt (mTak m) q = false ∧ bt (mFre m ||| (1 <<< ((nI i).toInt64 &&& 63))) q = false) ∨ (upd (rMar r2) i 3 q = 3 ∧ bt (mTak m) q = false ∧ bt (mFre m ||| (1 <<< ((nI i).toInt64 &&& 63))) q = true) ∨ ((upd (rMar r2) i 3 q = 2 ∨ upd (rMar r2) i 3 q = 4 ∨ upd (rMar r2) i 3 q = 5) ∧ bt (mTak m) q = true ∧ bt (mFre m ||| (1 <<< ((nI i).toInt64 &&& 63))) q = false)
      have hmr : rMar r2 = rMar r := (rO_mar g2.2).trans (rQ_mar c5)
      rw [bt_set hi (by omega), hmr]
      by_cases e : q = i
      · rw [e, pk_us]
        exact Or.inr (Or.inl ⟨rfl, by rw [ht]; exact bt_0 _, by simp⟩)
      · rw [pk_un e, show decide (q = i) = false from decide_eq_false e, Bool.or_false]
        exact hM.2 q hq
/-- the bit that is due -/
def due (d : DS) (m : MS) (p k : Nat) : Bool := (hnt d p k || bt (mFre m) k) && !bt (mTak m) k
theorem due_mark {p k : Nat} (hM : MR d m r) (hk : k < 40) : due d m p k = (if rMar r k = 0 then hnt d p k else decide (rMar r k = 3)) := by
  unfold due
  rcases hM.2 k hk with ⟨a1, a2, a3⟩ | ⟨a1, a2, a3⟩ | ⟨a1, a2, a3⟩
  · rw [a1, a2, a3]; simp
  · rw [a1, a2, a3]; simp
  · rw [a2, a3]
    rcases a1 with a1 | a1 | a1 <;> rw [a1] <;> simp
theorem R_pm69 {r19 : RS → Int32 → Int32 → Option (Unit × RS)} {r26 : RS → Int32 → Int32 → Int32 → Option (Unit × RS)} {x1 x2 : Int32} {k a : Nat} (hk : k < 40) (ha : a < 320) (hb db : Bool) (hd : db = (if rMar r k = 0 then hb else decide (rMar r k = 3))) :
    B_Mod_putMap_69 r19 r26 r x1 x2 (nI k) (nI a) (if hb = true then 1 else 0) = (if x2 = 1 ∧ ¬ hb = db then r26 (rSByt r (upd (rByt r) a ((rByt r a) ^^^ (1 <<< ((nI k - nI k / 8 * 8) &&& 31))))) (if ¬ x1 = 0 ∨ ¬ hb = db then 1 else 0) x2 (nI (k + 1)) else r26 r (if ¬ x1 = 0 ∨ ¬ hb = db then 1 else 0) x2 (nI (k + 1))) := by
  have h118 : ∀ t, B_Mod_putMap_118 r19 r26 r x2 (nI k) (nI a) (if hb = true then 1 else 0) (if db = true then 1 else 0) t = (if x2 = 1 ∧ ¬ hb = db then r26 (rSByt r (upd (rByt r) a ((rByt r a) ^^^ (1 <<< ((nI k - nI k / 8 * 8) &&& 31))))) t x2 (nI (k + 1)) else r26 r t x2 (nI (k + 1))) := by
    intro t
    unfold B_Mod_putMap_118 B_Mod_putMap_152
    rw [if_pos (inB_nI ha (by decide)), if_pos (inB_nI ha (by decide)), cl_nI (by omega), nI_1]
    by_cases e : x2 = 1
    · rw [if_neg (not_not_intro e)]
      cases hb <;> cases db
      · rw [if_pos rfl, if_neg (fun q => q.2 rfl)]
      · rw [if_neg (by decide), if_pos ⟨e, by decide⟩]
      · rw [if_neg (by decide), if_pos ⟨e, by decide⟩]
      · rw [if_pos rfl, if_neg (fun q => q.2 rfl)]
    · rw [if_pos e, if_neg (fun q => e q.1)]
  have h100 : B_Mod_putMap_100 r19 r26 r x1 x2 (nI k) (nI a) (if hb = true then 1 else 0) (if db = true then 1 else 0) = (if x2 = 1 ∧ ¬ hb = db then r26 (rSByt r (upd (rByt r) a ((rByt r a) ^^^ (1 <<< ((nI k - nI k / 8 * 8) &&& 31))))) (if ¬ x1 = 0 ∨ ¬ hb = db then 1 else 0) x2 (nI (k + 1)) else r26 r (if ¬ x1 = 0 ∨ ¬ hb = db then 1 else 0) x2 (nI (k + 1))) := by
    unfold B_Mod_putMap_100 B_Mod_putMap_113
    rw [h118, h118]
    by_cases e : x1 = 0
    · rw [if_neg (not_not_intro e)]
      cases hb <;> cases db
      · rw [if_pos rfl, if_neg (show ¬ (¬ x1 = 0 ∨ ¬ false = false) from fun q => q.elim (fun q => q e) (fun q => q rfl))]
      · rw [if_neg (by decide), if_pos (show ¬ x1 = 0 ∨ ¬ false = true from Or.inr (by decide))]
      · rw [if_neg (by decide), if_pos (show ¬ x1 = 0 ∨ ¬ true = false from Or.inr (by decide))]
      · rw [if_pos rfl, if_neg (show ¬ (¬ x1 = 0 ∨ ¬ true = true) from fun q => q.elim (fun q => q e) (fun q => q rfl))]
    · rw [if_pos e, if_pos (Or.inl e)]
  rw [← h100]
  unfold B_Mod_putMap_69
  rw [if_pos (inB_nI hk (by decide)), if_pos (inB_nI hk (by decide)), cl_nI (by omega)]
  by_cases e : rMar r k = 0
  · rw [if_neg (not_not_intro e), hd, if_pos e]
  · rw [if_pos e]
    rw [if_neg e] at hd
    by_cases e3 : rMar r k = 3
    · rw [if_neg (not_not_intro e3), hd, decide_eq_true e3]; rfl
    · rw [if_pos e3, hd, decide_eq_false e3]; rfl
theorem C_byte (I : IV B d) {p c : Nat} (hp : p < 40) (hu : dUnr d p = 0) (hc : c < 5) (hm : mPag m = nI p) : ∃ n, n < 256 ∧ f_Map_updatedByte d f w m (nI c) = (nI n, ()) ∧ ∀ j, j < 8 → n.testBit j = due d m p (8 * c + j) := by
  unfold f_Map_updatedByte f_Disk_byteAt
  rw [hm, xcb hp (by omega) hu]
  have h := (I.2 p hp).2.1 (5 + c) (by omega) (by omega) (by omega)
  have h2 := h.2
  rw [show mxK B (5 + c) = 255 by rw [Nat.add_comm]; rfl] at h2
  rw [h.1]
  obtain ⟨n, n1, n2, n3⟩ := updB (vN d p (5 + c)) (mFre m) (mTak m) (k := c) (by omega) hc
  refine ⟨n, n1, by rw [n2], fun j hj => ?_⟩
  rw [n3 j hj]
  unfold due hnt
  rw [show (8 * c + j) / 8 = c by omega, show (8 * c + j) % 8 = j by omega]
end UP
