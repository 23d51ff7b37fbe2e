/-! the map: finding it, taking sectors -/
theorem lp_ex {σ R : Type} {Lf : Nat → σ → Int32 → R} {fin : σ → R} {N : Nat} (P : Nat → σ → Prop) (hs : ∀ n s i, i < N → P i s → ∃ s', Lf (n + 1) s (nI i) = Lf n s' (nI (i + 1)) ∧ P (i + 1) s') (he : ∀ n s, P N s → Lf (n + 1) s (nI N) = fin s) : ∀ k i s n, i + k = N → k < n → P i s → ∃ s', Lf n s (nI i) = fin s' ∧ P N s' := by
  intro k
  induction k with
  | zero =>
    intro i s n hi hn hP
    obtain ⟨m, rfl⟩ : ∃ m, n = m + 1 := ⟨n - 1, by omega⟩
    have h : i = N := by omega
    subst h
    exact ⟨s, he m s hP, hP⟩
  | succ k ih =>
    intro i s n hi hn hP
    obtain ⟨m, rfl⟩ : ∃ m, n = m + 1 := ⟨n - 1, by omega⟩
    obtain ⟨s', h1, h2⟩ := hs m s i (by omega) hP
    rw [h1]
    exact ih (i + 1) s' m (by omega) (by omega) h2
/-- what of the reference no finding and taking touches -/
def rP (r : RS) : (Nat → Int32) × (Nat → Int32) × Int32 × Int32 × Int32 × Int32 × Int32 × Int32 × Int32 := (rRep r, rRow r, rFau r, rHAt r, rHPl r, rEnd r, rFAt r, rFPl r, rRws r)
def MR (d : DS) (m : MS) (r : RS) : Prop :=
  ((mPag m = -1 ∧ rMap r = -1) ∨ ∃ p, p < 40 ∧ dUnr d p = 0 ∧ mPag m = nI p ∧ rMap r = nI p) ∧
  (∀ q, q < 40 → (rMar r q = 0 ∧ bt (mTak m) q = false ∧ bt (mFre m) q = false) ∨ (rMar r q = 3 ∧ bt (mTak m) q = false ∧ bt (mFre m) q = true) ∨ ((rMar r q = 2 ∨ rMar r q = 4 ∨ rMar r q = 5) ∧ bt (mTak m) q = true ∧ bt (mFre m) q = false))
def TK (d : DS) (m : MS) (r : RS) (c : Nat) : Prop :=
  (c = 0 ∧ mFir m = -1 ∧ mSnd m = -1 ∧ ∀ q, q < 40 → ¬ (4 : Int32) ≤ rMar r q) ∨
  (c = 1 ∧ ∃ a, a < 40 ∧ xFree d (nI a) = true ∧ mFir m = nI a ∧ mSnd m = -1 ∧ rMar r a = 4 ∧ ∀ q, q < 40 → q ≠ a → ¬ (4 : Int32) ≤ rMar r q) ∨
  (c = 2 ∧ ∃ a b, a < 40 ∧ b < 40 ∧ a ≠ b ∧ xFree d (nI a) = true ∧ xFree d (nI b) = true ∧ mFir m = nI a ∧ mSnd m = nI b ∧ rMar r a = 4 ∧ rMar r b = 5 ∧ ∀ q, q < 40 → q ≠ a → q ≠ b → ¬ (4 : Int32) ≤ rMar r q)
section MP
variable {d : DS} {r r' : RS} {f : FS} {w : WS} {m : MS} {B : Nat}
theorem R_findMap (h : RD d r) (hf : RF f r) (I : IV B d) (J : IF f) : ∃ m' mm f' r', f_Map_find d f w m = some ((), (dSMis d mm, f', m')) ∧ f_Mod_findMap r = some ((), r') ∧ RD (dSMis d mm) r' ∧ RF f' r' ∧ IF f' ∧ MR d m' r' ∧ TK d m' r' 0 ∧ (∀ q, q < 40 → rMar r' q = 0) ∧ mTak m' = 0 ∧ rP r' = rP r := by
  obtain ⟨r1, e1, z, rfl, hz⟩ : ∃ r1, f_Mod_findMap r = bnd (f_Mod_leader r1 2) (fun q => B_Mod_findMap_26 q.2 q.1) ∧ ∃ z, r1 = rSMar r z ∧ ∀ q, q < 40 → z q = 0 := by
    refine lp_ex (Lf := fun n z x => L_Mod_findMap_2 n z x) (fin := fun z => bnd (f_Mod_leader z 2) (fun q => B_Mod_findMap_26 q.2 q.1)) (N := 40) (fun j s => ∃ z, s = rSMar r z ∧ ∀ q, q < j → z q = 0) (fun n s j hj hP => ?_) (fun n s hP => ?_) 40 0 r 1000 rfl (by decide) ⟨rMar r, rfl, fun q hq => absurd hq (by omega)⟩
    · obtain ⟨z, rfl, hz⟩ := hP
      refine ⟨rSMar r (upd z j 0), ?_, upd z j 0, rfl, fun q hq => ?_⟩
      · show L_Mod_findMap_2 (n + 1) (rSMar r z) (nI j) = _
        rw [L_Mod_findMap_2, if_neg (gn 40 hj), if_pos (inB_nI hj (by decide)), cl_nI (by omega), ← nI_1]; rfl
      · by_cases q1 : q = j
        · rw [q1, pk_us]
        · rw [pk_un q1]; exact hz q (by omega)
    · show L_Mod_findMap_2 (n + 1) s (nI 40) = _
      rw [L_Mod_findMap_2, if_pos (gy 40 (N := 40))]
  have h0 : RD d (rSMar r z) := h
  obtain ⟨v, m1, k, f', a1, a2, a3, a4, a5⟩ := R_leader (r := rSMar r z) h0 hf J 2
  rw [e1, a2, bnd_some]
  unfold f_Map_find B_Map_find_8 B_Map_find_28 B_Mod_findMap_26
  rw [a1, bnd_some]
  have bz : ∀ q, bt (0 : Int64) q = false := bt_0
  rcases a5 with rfl | ⟨i, hi, rfl, i1, i2, i3, -⟩
  · refine ⟨_, m1, f', rSFau (rSMap (rSMis (rSKep (rSMar r z) k) m1) (-1)) (rFau r), rfl, rfl, h.mis m1 k, a3, a4, ⟨Or.inl ⟨rfl, rfl⟩, fun q hq => Or.inl ⟨hz q hq, bz q, bz q⟩⟩, Or.inl ⟨rfl, rfl, rfl, fun q hq => ?_⟩, hz, rfl, rfl⟩
    show ¬ (4 : Int32) ≤ z q
    rw [hz q hq]; decide
  · have h1 : RD (dSMis d m1) (rSMis (rSKep (rSMar r z) k) m1) := h0.mis m1 k
    obtain ⟨u, m2, b1, b2, b3⟩ := R_behind (f := f') (B := B) h1 I hi i1
    rw [if_pos (show ¬ (nI i, (dSMis d m1, f')).1 = -1 from nI_m1 (by omega)), if_pos (show 0 ≤ (nI i, rSMis (rSKep (rSMar r z) k) m1).1 from nI_pos' (by omega)), show f_Finder_follow (nI i, (dSMis d m1, f')).2.1 (nI i, (dSMis d m1, f')).2.2 (nI i, (dSMis d m1, f')).1 3 = _ from b1, b2, bnd_some]
    refine ⟨_, m2, f', rSFau (rSMap (rSFau (rSMis (rSKep (rSMar r z) k) m2) (if u = -1 then 4 else rFau r)) u) (rFau r), rfl, rfl, h.mis m2 k, a3, a4, ⟨?_, fun q hq => Or.inl ⟨hz q hq, bz q, bz q⟩⟩, Or.inl ⟨rfl, rfl, rfl, fun q hq => ?_⟩, hz, rfl, rfl⟩
    · rcases b3 with rfl | ⟨j, rfl, j1, j2, -⟩
      · exact Or.inl ⟨rfl, rfl⟩
      · exact Or.inr ⟨j, j1, j2, rfl, rfl⟩
    · show ¬ (4 : Int32) ≤ z q
      rw [hz q hq]; decide
theorem C_count {c : Nat} (h : TK d m r c) (d' : DS) : f_Map_countTaken d' f w m = (nI c, ()) := by
  unfold f_Map_countTaken
  rcases h with ⟨rfl, h1, h2, -⟩ | ⟨rfl, a, a1, -, h1, h2, -⟩ | ⟨rfl, a, b, a1, b1, -, -, -, h1, h2, -⟩
  · rw [h1, if_neg (not_not_intro rfl)]; rfl
  · rw [h1, h2, if_pos (nI_m1 (by omega)), if_neg (not_not_intro rfl)]; rfl
  · rw [h1, h2, if_pos (nI_m1 (by omega)), if_pos (nI_m1 (by omega))]; rfl
theorem TK.le {c : Nat} (h : TK d m r c) : c ≤ 2 := by
  rcases h with ⟨rfl, -⟩ | ⟨rfl, -⟩ | ⟨rfl, -⟩ <;> omega
theorem MR.same (h : MR d m r) (h1 : ∀ q, q < 40 → rMar r' q = rMar r q) (h2 : rMap r' = rMap r) : MR d m r' := ⟨by rw [h2]; exact h.1, fun q hq => by rw [h1 q hq]; exact h.2 q hq⟩
theorem TK.same {c : Nat} (h : TK d m r c) (h1 : ∀ q, q < 40 → rMar r' q = rMar r q) : TK d m r' c := by
  rcases h with ⟨rfl, a1, a2, a3⟩ | ⟨rfl, a, a1, a2, a3, a4, a5, a6⟩ | ⟨rfl, a, b, a1, a2, a3, a4, a5, a6, a7, a8, a9, a10⟩
  · exact Or.inl ⟨rfl, a1, a2, fun q hq => by rw [h1 q hq]; exact a3 q hq⟩
  · exact Or.inr (Or.inl ⟨rfl, a, a1, a2, a3, a4, by rw [h1 a a1]; exact a5, fun q hq hn => by rw [h1 q hq]; exact a6 q hq hn⟩)
  · exact Or.inr (Or.inr ⟨rfl, a, b, a1, a2, a3, a4, a5, a6, a7, by rw [h1 a a1]; exact a8, by rw [h1 b a2]; exact a9, fun q hq hn hn2 => by rw [h1 q hq]; exact a10 q hq hn hn2⟩)
abbrev mT (m : MS) (k : Nat) : MS := mSTak m (mTak m ||| (1 <<< ((nI k).toInt64 &&& 63)))
theorem mT_at {k q : Nat} (hk : k < 40) (hq : q < 40) : bt (mTak (mT m k)) q = (bt (mTak m) q || decide (q = k)) := bt_set hk (by omega)
theorem MR.mark {k : Nat} {x : Int32} {m' : MS} (h : MR d m r) (hk : k < 40) (h3 : ¬ rMar r k = 3) (hx : x = 2 ∨ x = 4 ∨ x = 5) (h1 : ∀ q, q < 40 → rMar r' q = upd (rMar r) k x q) (h2 : rMap r' = rMap r) (g1 : mPag m' = mPag m) (g2 : mTak m' = mTak (mT m k)) (g3 : mFre m' = mFre m) : MR d m' r' := by
  refine ⟨by rw [h2, g1]; exact h.1, fun q hq => ?_⟩
  rw [h1 q hq, g2, g3, mT_at hk hq]
  by_cases e : q = k
  · subst e
    rw [pk_us]
    refine Or.inr (Or.inr ⟨hx, by simp, ?_⟩)
    rcases h.2 q hq with a | a | a
    · exact a.2.2
    · exact absurd a.1 h3
    · exact a.2.2
  · rw [pk_un e, show decide (q = k) = false from decide_eq_false e, Bool.or_false]
    exact h.2 q hq
theorem TK.miss {k c : Nat} {m' : MS} (h : TK d m r c) (hk : k < 40) (h4 : ¬ (4 : Int32) ≤ rMar r k) (h1 : ∀ q, q < 40 → rMar r' q = upd (rMar r) k 2 q) (g1 : mFir m' = mFir m) (g2 : mSnd m' = mSnd m) : TK d m' r' c := by
  have hn : ∀ q, q < 40 → ¬ (4 : Int32) ≤ rMar r q → ¬ (4 : Int32) ≤ rMar r' q := fun q hq hh => by
    rw [h1 q hq]
    by_cases e : q = k
    · rw [e, pk_us]; decide
    · rw [pk_un e]; exact hh
  have hs : ∀ q, q < 40 → (4 : Int32) ≤ rMar r q → rMar r' q = rMar r q := fun q hq hh => by
    rw [h1 q hq, pk_un (fun e => h4 (by rw [← e]; exact hh))]
  rcases h with ⟨rfl, a1, a2, a3⟩ | ⟨rfl, a, a1, a2, a3, a4, a5, a6⟩ | ⟨rfl, a, b, a1, a2, a3, a4, a5, a6, a7, a8, a9, a10⟩
  · exact Or.inl ⟨rfl, g1.trans a1, g2.trans a2, fun q hq => hn q hq (a3 q hq)⟩
  · exact Or.inr (Or.inl ⟨rfl, a, a1, a2, g1.trans a3, g2.trans a4, by rw [hs a a1 (by rw [a5]; decide)]; exact a5, fun q hq q1 => hn q hq (a6 q hq q1)⟩)
  · exact Or.inr (Or.inr ⟨rfl, a, b, a1, a2, a3, a4, a5, g1.trans a6, g2.trans a7, by rw [hs a a1 (by rw [a8]; decide)]; exact a8, by rw [hs b a2 (by rw [a9]; decide)]; exact a9, fun q hq q1 q2 => hn q hq (a10 q hq q1 q2)⟩)
theorem TK.take {k c : Nat} (h : TK d m r c) (hc : c < 2) (hk : k < 40) (hF : xFree d (nI k) = true) (h4 : ¬ (4 : Int32) ≤ rMar r k) (h1 : ∀ q, q < 40 → rMar r' q = upd (rMar r) k (4 + nI c) q) : TK d (if ¬ mFir m = -1 then mSSnd (mT m k) (nI k) else mSFir (mT m k) (nI k)) r' (c + 1) := by
  have hn : ∀ q, q < 40 → q ≠ k → rMar r' q = rMar r q := fun q hq e => by rw [h1 q hq, pk_un e]
  have hx : rMar r' k = 4 + nI c := by rw [h1 k hk, pk_us]
  rcases h with ⟨rfl, a1, a2, a3⟩ | ⟨rfl, a, a1, a2, a3, a4, a5, a6⟩ | ⟨rfl, -⟩
  · rw [if_neg (not_not_intro a1)]
    exact Or.inr (Or.inl ⟨rfl, k, hk, hF, rfl, a2, by rw [hx]; rfl, fun q hq e => by rw [hn q hq e]; exact a3 q hq⟩)
  · rw [if_pos (by rw [a3]; exact nI_m1 (by omega))]
    have hak : a ≠ k := fun e => h4 (by rw [← e, a5]; decide)
    exact Or.inr (Or.inr ⟨rfl, a, k, a1, hk, hak, a2, hF, a3, rfl, by rw [hn a a1 hak]; exact a5, by rw [hx]; rfl, fun q hq e1 e2 => by rw [hn q hq e2]; exact a6 q hq e1⟩)
  · omega
/-- the map's bit of a sector -/
def hnt (d : DS) (p k : Nat) : Bool := (vN d p (5 + k / 8)).testBit (k % 8)
theorem hnt_b (I : IV B d) {p k : Nat} (hp : p < 40) (hk : k < 40) : dCells d (p * 13 + (5 + k / 8)) = nI (vN d p (5 + k / 8)) ∧ vN d p (5 + k / 8) < 256 := by
  have h := (I.2 p hp).2.1 (5 + k / 8) (by omega) (by omega) (by omega)
  have h2 := h.2
  rw [show mxK B (5 + k / 8) = 255 by rw [Nat.add_comm]; rfl] at h2
  exact ⟨h.1, by omega⟩
theorem d8 {k : Nat} (hk : k < 40) : (nI k : Int32) / 8 = nI (k / 8) ∧ (nI k : Int32) - nI k / 8 * 8 = nI (k % 8) :=
  ⟨by rw [show (8 : Int32) = nI 8 from rfl, pk_div (by omega) (by decide) (by decide)], by rw [show (8 : Int32) = nI 8 from rfl]; exact pk_rem (by omega) (by decide) (by decide)⟩
theorem C_hint (I : IV B d) {p k : Nat} (hp : p < 40) (hu : dUnr d p = 0) (hk : k < 40) (hm : mPag m = nI p) : f_Map_hintsFree d f w m (nI k) = (if hnt d p k = true then 1 else 0, ()) := by
  unfold f_Map_hintsFree B_Map_hintsFree_38 f_Disk_byteAt
  obtain ⟨b1, b2⟩ := hnt_b I hp hk
  rw [hm, if_neg (nI_m1 (by omega)), (d8 hk).2, (d8 hk).1, xcb hp (by omega) hu, b1]
  have hh := hintR _ b2 (k % 8) (by omega)
  by_cases g : hnt d p k = true
  · rw [if_pos g, if_neg (not_not_intro (hh.mpr g))]
  · rw [if_neg g, if_pos (fun q => g (hh.mp q))]
theorem R_hint (h : RD d r) (I : IV B d) {p k : Nat} (hp : p < 40) (hk : k < 40) : (8 * nI p + nI k / 8 : Int32) = nI (8 * p + k / 8) ∧ 8 * p + k / 8 < 320 ∧ ((((rByt r (8 * p + k / 8)) >>> ((nI k - nI k / 8 * 8) &&& 31)) &&& 1 = (1 : Int32)) ↔ hnt d p k = true) := by
  obtain ⟨b1, b2⟩ := hnt_b I hp hk
  refine ⟨by rw [(d8 hk).1, byA], by omega, ?_⟩
  rw [(d8 hk).2, ← h.byt hp (show k / 8 < 8 by omega), b1]
  exact hintR _ b2 (k % 8) (by omega)
theorem C_tom {k : Nat} : f_Map_takeOrMiss d f w m (nI k) = ((), if xFree d (nI k) = true then (d, if ¬ mFir m = -1 then mSSnd (mT m k) (nI k) else mSFir (mT m k) (nI k)) else (dSMis d (dMis d + 1), mT m k)) := by
  unfold f_Map_takeOrMiss B_Map_takeOrMiss_30
  rw [isFree_v]
  cases g : xFree d (nI k)
  · rfl
  · rw [if_pos (show ¬ ((if true = true then (1 : Int32) else 0), ()).1 = 0 from (by decide : ¬ (1 : Int32) = 0)), if_pos rfl]
    show (if ¬ mFir m = -1 then _ else _) = _
    by_cases e : mFir m = -1
    · rw [if_neg (not_not_intro e), if_neg (not_not_intro e)]
    · rw [if_pos e, if_pos e]
end MP
