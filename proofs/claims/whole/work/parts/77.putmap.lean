/-! the map's page written -/
theorem tb_ext {a b : Nat} (ha : a < 256) (hb : b < 256) (h : ∀ j, j < 8 → a.testBit j = b.testBit j) : a = b := by
  apply Nat.eq_of_testBit_eq
  intro j
  by_cases hj : j < 8
  · exact h j hj
  · have hp : 2 ^ 8 ≤ 2 ^ j := Nat.pow_le_pow_right (by decide) (by omega)
    rw [Nat.testBit_lt_two_pow (Nat.lt_of_lt_of_le ha hp), Nat.testBit_lt_two_pow (Nat.lt_of_lt_of_le hb hp)]
def tU (t : Nat → Nat) (a x : Nat) : Nat → Nat := fun c => if c = a then x else t c
theorem tU_eq {t : Nat → Nat} {a x : Nat} : tU t a x a = x := if_pos rfl
theorem tU_ne {t : Nat → Nat} {a x c : Nat} (h : ¬ c = a) : tU t a x c = t c := if_neg h
section PM
variable {d : DS} {r r' : RS} {f : FS} {w : WS} {m : MS} {B : Nat}
theorem R_pm26 {r19 : RS → Int32 → Int32 → Option (Unit × RS)} {n p k : Nat} {x1 x2 : Int32} (h : RD d r) (I : IV B d) (hp : p < 40) (hk : k < 40) (hr : rMap r = nI p) (db : Bool) (hd : db = (if rMar r k = 0 then hnt d p k else decide (rMar r k = 3))) :
    L_Mod_putMap_26 r19 (n + 1) r x1 x2 (nI k) = (if x2 = 1 ∧ ¬ hnt d p k = db then L_Mod_putMap_26 r19 n (rSByt r (upd (rByt r) (8 * p + k / 8) ((rByt r (8 * p + k / 8)) ^^^ (1 <<< ((nI k - nI k / 8 * 8) &&& 31))))) (if ¬ x1 = 0 ∨ ¬ hnt d p k = db then 1 else 0) x2 (nI (k + 1)) else L_Mod_putMap_26 r19 n r (if ¬ x1 = 0 ∨ ¬ hnt d p k = db then 1 else 0) x2 (nI (k + 1))) := by
  rw [L_Mod_putMap_26, if_neg (gn 40 hk), hr]
  obtain ⟨i1, i2, i3⟩ := R_hint h I hp hk
  rw [i1, if_pos (inB_nI i2 (by decide)), cl_nI (by omega), ← R_pm69 (r19 := r19) (r26 := L_Mod_putMap_26 r19 n) (x1 := x1) (x2 := x2) hk i2 (hnt d p k) db hd]
  cases g : hnt d p k
  · rw [if_pos (fun q => absurd (i3.mp q) (by rw [g]; decide))]; rfl
  · rw [if_neg (not_not_intro (i3.mpr g))]; rfl
theorem C_would (I : IV B d) {p : Nat} (hp : p < 40) (hu : dUnr d p = 0) (hm : mPag m = nI p) : (f_Map_wouldChange d f w m = some (1, ()) ∧ ∃ k, k < 40 ∧ ¬ hnt d p k = due d m p k) ∨ (f_Map_wouldChange d f w m = some (0, ()) ∧ ∀ k, k < 40 → hnt d p k = due d m p k) := by
  have hL := lp_fs (Lf := fun n x => L_Map_wouldChange_2 n d f w m x) (p := fun c => decide (¬ (f_Map_updatedByte d f w m (nI c)).1 = (f_Disk_byteAt d (mPag m) (nI c)).1)) (r := fun _ => ((1 : Int32), ())) (e := (0, ())) (N := 5) (fun n i hi => by
    show L_Map_wouldChange_2 (n + 1) d f w m (nI i) = _
    rw [L_Map_wouldChange_2, if_neg (gn 5 hi), ← nI_1]
    by_cases e : (f_Map_updatedByte d f w m (nI i)).1 = (f_Disk_byteAt d (mPag m) (nI i)).1
    · rw [if_pos e, if_neg (by simp [e])]
    · rw [if_neg e, if_pos (decide_eq_true e)]) (fun n => by
    show L_Map_wouldChange_2 (n + 1) d f w m (nI 5) = _
    rw [L_Map_wouldChange_2, if_pos (gy 5 (N := 5))]) 5 0 100 rfl (by decide)
  have hC : ∀ c, c < 5 → ∃ n, n < 256 ∧ (f_Map_updatedByte d f w m (nI c)).1 = nI n ∧ (∀ j, j < 8 → n.testBit j = due d m p (8 * c + j)) ∧ (f_Disk_byteAt d (mPag m) (nI c)).1 = nI (vN d p (5 + c)) ∧ vN d p (5 + c) < 256 := by
    intro c hc
    obtain ⟨n, n1, n2, n3⟩ := C_byte (f := f) (w := w) I hp hu hc hm
    have h := (I.2 p hp).2.1 (5 + c) (by omega) (by omega) (by omega)
    have h2 := h.2
    rw [show mxK B (5 + c) = 255 by rw [Nat.add_comm]; rfl] at h2
    refine ⟨n, n1, by rw [n2], n3, ?_, by omega⟩
    unfold f_Disk_byteAt
    rw [hm, xcb hp (by omega) hu]; exact h.1
  have hS := fsF_spec (fun c => decide (¬ (f_Map_updatedByte d f w m (nI c)).1 = (f_Disk_byteAt d (mPag m) (nI c)).1)) 5 0
  cases hf : fsF (fun c => decide (¬ (f_Map_updatedByte d f w m (nI c)).1 = (f_Disk_byteAt d (mPag m) (nI c)).1)) 0 5 with
  | none =>
    rw [hf] at hS hL
    refine Or.inr ⟨hL, fun k hk => ?_⟩
    obtain ⟨n, n1, n2, n3, n4, n5⟩ := hC (k / 8) (by omega)
    have h1 := hS (k / 8) (by omega) (by omega)
    rw [n2, n4] at h1
    have h2 : nI n = nI (vN d p (5 + k / 8)) := by simpa using h1
    have h3 := (nI_eq (by omega) (by omega)).mp h2
    have h4 := n3 (k % 8) (by omega)
    rw [show 8 * (k / 8) + k % 8 = k by omega, h3] at h4
    exact h4
  | some c =>
    rw [hf] at hS hL
    obtain ⟨-, c1, c2, -⟩ := hS
    refine Or.inl ⟨hL, ?_⟩
    obtain ⟨n, n1, n2, n3, n4, n5⟩ := hC c (by omega)
    rw [n2, n4] at c2
    have c3 : ¬ nI n = nI (vN d p (5 + c)) := of_decide_eq_true c2
    apply Classical.byContradiction
    intro hno
    apply c3
    rw [tb_ext n1 n5 (fun j hj => ?_)]
    rw [n3 j hj]
    have : hnt d p (8 * c + j) = due d m p (8 * c + j) := by
      apply Classical.byContradiction
      intro q
      exact hno ⟨8 * c + j, by omega, q⟩
    rw [← this]
    unfold hnt
    rw [show (8 * c + j) / 8 = c by omega, show (8 * c + j) % 8 = j by omega]
/-- the reference's first pass -/
theorem R_pass0 {r19 : RS → Int32 → Int32 → Option (Unit × RS)} {p : Nat} (h : RD d r) (I : IV B d) (hp : p < 40) (hr : rMap r = nI p) (hM : MR d m r) : ∃ x1, L_Mod_putMap_26 r19 1000 r 0 0 0 = (if x1 = 0 then some ((), r) else B_Mod_putMap_170 r19 (f_Mod_writes r).2 x1 0 (f_Mod_writes r).1) ∧ ((x1 = 1 ∧ ∃ k, k < 40 ∧ ¬ hnt d p k = due d m p k) ∨ (x1 = 0 ∧ ∀ k, k < 40 → hnt d p k = due d m p k)) := by
  refine lp_ex (Lf := fun n (z : Int32) x => L_Mod_putMap_26 r19 n r z 0 x) (fin := fun z => if z = 0 then some ((), r) else B_Mod_putMap_170 r19 (f_Mod_writes r).2 z 0 (f_Mod_writes r).1) (N := 40) (fun i z => (z = 1 ∧ ∃ k, k < i ∧ ¬ hnt d p k = due d m p k) ∨ (z = 0 ∧ ∀ k, k < i → hnt d p k = due d m p k)) (fun n z i hi hP => ?_) (fun n z _ => ?_) 40 0 0 1000 rfl (by decide) (Or.inr ⟨rfl, fun k hk => absurd hk (by omega)⟩)
  · show ∃ s', L_Mod_putMap_26 r19 (n + 1) r z 0 (nI i) = _ ∧ _
    rw [R_pm26 (d := d) h I hp hi hr (due d m p i) (due_mark hM hi), if_neg (fun q => absurd q.1 (by decide))]
    refine ⟨_, rfl, ?_⟩
    rcases hP with ⟨rfl, k, k1, k2⟩ | ⟨rfl, hA⟩
    · rw [if_pos (Or.inl (by decide))]
      exact Or.inl ⟨rfl, k, by omega, k2⟩
    · by_cases e : hnt d p i = due d m p i
      · rw [if_neg (fun q => q.elim (fun q => q rfl) (fun q => q e))]
        refine Or.inr ⟨rfl, fun k hk => ?_⟩
        by_cases q : k = i
        · rw [q]; exact e
        · exact hA k (by omega)
      · rw [if_pos (Or.inr e)]
        exact Or.inl ⟨rfl, i, by omega, e⟩
  · show L_Mod_putMap_26 r19 (n + 1) r z 0 (nI 40) = _
    rw [L_Mod_putMap_26, if_pos (gy 40 (N := 40)), if_neg (not_not_intro rfl)]
/-- the cells of the map's page with these bytes -/
def mV (v : Nat → Int32) (t : Nat → Nat) (n : Nat) : Nat → Int32 := fun k => if 5 ≤ k ∧ k < 5 + n then nI (t (k - 5)) else v k
theorem C_pass {p : Nat} (I : IV B d) (hp : p < 40) (hu : dUnr d p = 0) (hm : mPag m = nI p) (t : Nat → Nat) (ht : ∀ c, c < 5 → t c < 256 ∧ f_Map_updatedByte d f w m (nI c) = (nI (t c), ())) : ∃ d', B_Map_update_23 d f w m = some (.inr (), d') ∧ DRow d d' p (mV (fun k => dCells d (p * 13 + k)) t 5) := by
  refine lp_ex (Lf := fun n z x => L_Map_update_25 n z f w m x) (fin := fun z => some (.inr (), z)) (N := 5) (fun c z => DRow d z p (mV (fun k => dCells d (p * 13 + k)) t c)) (fun n z c hc hz => ?_) (fun n z _ => ?_) 5 0 d 100 rfl (by decide) ((DRow.refl d p).congr fun k _ => by unfold mV; rw [if_neg (by omega)])
  · show ∃ s', L_Map_update_25 (n + 1) z f w m (nI c) = _ ∧ _
    rw [L_Map_update_25, if_neg (gn 5 hc)]
    unfold B_Map_update_47
    have hzu : dUnr z p = 0 := by rw [hz.unr]; exact hu
    have e1 : f_Map_updatedByte z f w m (nI c) = (nI (t c), ()) := by
      rw [← (ht c hc).2]
      unfold f_Map_updatedByte f_Disk_byteAt
      rw [hm, xcb hp (by omega) hzu, xcb hp (by omega) hu, hz.1 p hp (5 + c) (by omega), if_pos rfl]
      unfold mV
      rw [if_neg (by omega)]
    rw [e1, hm, C_setb hp (by omega) hzu, nI_1, b255' (ht c hc).1]
    refine ⟨_, rfl, (hz.set (by omega) (nI (t c))).congr fun k hk => ?_⟩
    unfold mV
    by_cases q : k = 5 + c
    · rw [q, pk_us, if_pos (by omega), show 5 + c - 5 = c by omega]
    · rw [pk_un q]
      by_cases q2 : 5 ≤ k ∧ k < 5 + c
      · rw [if_pos q2, if_pos (by omega)]
      · rw [if_neg q2, if_neg (by omega)]
  · show L_Map_update_25 (n + 1) z f w m (nI 5) = _
    rw [L_Map_update_25, if_pos (gy 5 (N := 5))]
theorem R_pm26b {r19 : RS → Int32 → Int32 → Option (Unit × RS)} {n p k b : Nat} {x1 x2 : Int32} (hp : p < 40) (hk : k < 40) (hr : rMap r = nI p) (hb : rByt r (8 * p + k / 8) = nI b) (h256 : b < 256) (db : Bool) (hd : db = (if rMar r k = 0 then b.testBit (k % 8) else decide (rMar r k = 3))) :
    L_Mod_putMap_26 r19 (n + 1) r x1 x2 (nI k) = (if x2 = 1 ∧ ¬ b.testBit (k % 8) = db then L_Mod_putMap_26 r19 n (rSet r p (5 + k / 8) (nI (b ^^^ 2 ^ (k % 8)))) (if ¬ x1 = 0 ∨ ¬ b.testBit (k % 8) = db then 1 else 0) x2 (nI (k + 1)) else L_Mod_putMap_26 r19 n r (if ¬ x1 = 0 ∨ ¬ b.testBit (k % 8) = db then 1 else 0) x2 (nI (k + 1))) := by
  rw [L_Mod_putMap_26, if_neg (gn 40 hk), hr]
  have i1 : (8 * nI p + nI k / 8 : Int32) = nI (8 * p + k / 8) := by rw [(d8 hk).1, byA]
  have i2 : 8 * p + k / 8 < 320 := by omega
  have i3 := hintR b h256 (k % 8) (by omega)
  have h9 := R_pm69 (r := r) (r19 := r19) (r26 := L_Mod_putMap_26 r19 n) (x1 := x1) (x2 := x2) hk i2 (b.testBit (k % 8)) db hd
  rw [hb, (d8 hk).2, togR b h256 (k % 8) (by omega), ← rSetb] at h9
  rw [i1, if_pos (inB_nI i2 (by decide)), cl_nI (by omega), ← h9, hb, (d8 hk).2]
  cases g : b.testBit (k % 8)
  · rw [if_pos (fun q => absurd (i3.mp q) (by rw [g]; decide))]; rfl
  · rw [if_neg (not_not_intro (i3.mpr g))]; rfl
theorem rC_byt (r : RS) (i j : Nat) : rC r i (5 + j) = rByt r (8 * i + j) := by
  rw [Nat.add_comm]; rfl
theorem R_pass1 {r19 : RS → Int32 → Int32 → Option (Unit × RS)} {p : Nat} {x1 : Int32} (h : RD d r) (I : IV B d) (hp : p < 40) (hr : rMap r = nI p) (hM : MR d m r) : ∃ s' : RS × Int32, L_Mod_putMap_26 r19 1000 r x1 1 0 = r19 s'.1 s'.2 2 ∧ ∃ t : Nat → Nat, (∀ c, c < 5 → t c < 256 ∧ ∀ j, j < 8 → (t c).testBit j = due d m p (8 * c + j)) ∧ RRow r s'.1 p (mV (rC r p) t 5) := by
  have hX := lp_ex (Lf := fun n (z : RS × Int32) x => L_Mod_putMap_26 r19 n z.1 z.2 1 x) (fin := fun z => r19 z.1 z.2 2) (N := 40) (fun i z => ∃ t : Nat → Nat, (∀ c, c < 5 → t c < 256 ∧ ∀ j, j < 8 → (t c).testBit j = if 8 * c + j < i then due d m p (8 * c + j) else hnt d p (8 * c + j)) ∧ RRow r z.1 p (mV (rC r p) t 5)) (fun n z k hk hP => ?_) (fun n z _ => ?_) 40 0 (r, x1) 1000 rfl (by decide) ⟨fun c => vN d p (5 + c), fun c hc => ?_, ?_⟩
  · obtain ⟨s', h1, t, h2, h3⟩ := hX
    refine ⟨s', h1, t, fun c hc => ⟨(h2 c hc).1, fun j hj => ?_⟩, h3⟩
    rw [(h2 c hc).2 j hj, if_pos (by omega)]
  · show ∃ s', L_Mod_putMap_26 r19 (n + 1) z.1 z.2 1 (nI k) = _ ∧ _
    obtain ⟨t, t1, t2⟩ := hP
    have hmar : rMar z.1 = rMar r := rO_mar t2.2
    have hb : rByt z.1 (8 * p + k / 8) = nI (t (k / 8)) := by
      rw [← rC_byt, t2.1 p hp (5 + k / 8) (by omega), if_pos rfl]
      unfold mV
      rw [if_pos (by omega), show 5 + k / 8 - 5 = k / 8 by omega]
    have hbit : (t (k / 8)).testBit (k % 8) = hnt d p k := by
      rw [(t1 (k / 8) (by omega)).2 (k % 8) (by omega), show 8 * (k / 8) + k % 8 = k by omega, if_neg (by omega)]
    rw [R_pm26b (b := t (k / 8)) hp hk ((rO_map t2.2).trans hr) hb (t1 (k / 8) (by omega)).1 (due d m p k) (by rw [hmar, hbit]; exact due_mark hM hk)]
    by_cases e : (t (k / 8)).testBit (k % 8) = due d m p k
    · rw [if_neg (fun q => q.2 e)]
      refine ⟨(z.1, if ¬ z.2 = 0 ∨ ¬ (t (k / 8)).testBit (k % 8) = due d m p k then 1 else 0), rfl, t, fun c hc => ⟨(t1 c hc).1, fun j hj => ?_⟩, t2⟩
      rw [(t1 c hc).2 j hj]
      by_cases q : 8 * c + j = k
      · rw [q, if_neg (by omega), if_pos (by omega), ← hbit]; exact e
      · by_cases q2 : 8 * c + j < k
        · rw [if_pos q2, if_pos (by omega)]
        · rw [if_neg q2, if_neg (by omega)]
    · rw [if_pos ⟨rfl, e⟩]
      refine ⟨(_, _), rfl, tU t (k / 8) (t (k / 8) ^^^ 2 ^ (k % 8)), fun c hc => ?_, ?_⟩
      · by_cases q : c = k / 8
        · subst q
          rw [tU_eq]
          refine ⟨Nat.xor_lt_two_pow (n := 8) (t1 (k / 8) hc).1 (Nat.pow_lt_pow_right (by decide) (by omega)), fun j hj => ?_⟩
          rw [Nat.testBit_xor, Nat.testBit_two_pow, (t1 (k / 8) hc).2 j hj]
          by_cases q2 : k % 8 = j
          · rw [show 8 * (k / 8) + j = k by omega, if_neg (by omega), if_pos (by omega), decide_eq_true q2, ← hbit]
            cases g1 : (t (k / 8)).testBit (k % 8) <;> cases g2 : due d m p k
            · rw [g1, g2] at e; exact absurd rfl e
            · rfl
            · rfl
            · rw [g1, g2] at e; exact absurd rfl e
          · rw [decide_eq_false q2, Bool.xor_false]
            by_cases q3 : 8 * (k / 8) + j < k
            · rw [if_pos q3, if_pos (by omega)]
            · rw [if_neg q3, if_neg (by omega)]
        · rw [tU_ne q]
          refine ⟨(t1 c hc).1, fun j hj => ?_⟩
          rw [(t1 c hc).2 j hj]
          by_cases q3 : 8 * c + j < k
          · rw [if_pos q3, if_pos (by omega)]
          · rw [if_neg q3, if_neg (by omega)]
      · refine (t2.set (k := 5 + k / 8) (by omega) _).congr fun a ha => ?_
        unfold mV
        by_cases q : a = 5 + k / 8
        · rw [q, pk_us, if_pos (by omega), show 5 + k / 8 - 5 = k / 8 by omega, tU_eq]
        · rw [pk_un q]
          by_cases q2 : 5 ≤ a ∧ a < 5 + 5
          · rw [if_pos q2, if_pos q2, tU_ne (by omega)]
          · rw [if_neg q2, if_neg q2]
  · show L_Mod_putMap_26 r19 (n + 1) z.1 z.2 1 (nI 40) = _
    rw [L_Mod_putMap_26, if_pos (gy 40 (N := 40)), if_pos (by decide)]
    rfl
  · have h9 := (I.2 p hp).2.1 (5 + c) (by omega) (by omega) (by omega)
    have h2 := h9.2
    rw [show mxK B (5 + c) = 255 by rw [Nat.add_comm]; rfl] at h2
    refine ⟨show vN d p (5 + c) < 256 by omega, fun j hj => ?_⟩
    show (vN d p (5 + c)).testBit j = _
    rw [if_neg (by omega)]
    unfold hnt
    rw [show (8 * c + j) / 8 = c by omega, show (8 * c + j) % 8 = j by omega]
  · refine (RRow.refl r p).congr fun k hk => ?_
    unfold mV
    by_cases q : 5 ≤ k ∧ k < 5 + 5
    · rw [if_pos q, ← h.1 p hp k hk]
      show dCells d (p * 13 + k) = nI (vN d p (5 + (k - 5)))
      rw [show 5 + (k - 5) = k by omega]
      exact ((I.2 p hp).2.1 k hk (by omega) (by omega)).1
    · rw [if_neg q]
theorem R_update (h : RD d r) (I : IV B d) (hfa : rFau r = 0) (hM : MR d m r) : (f_Map_update d f w m = some (.inl 1, dSPow d 0) ∧ f_Mod_putMap r = some ((), rSFau (rSDar r 1) 1) ∧ RD (dSPow d 0) (rSFau (rSDar r 1) 1)) ∨
    (∃ d' r', f_Map_update d f w m = some (.inr (), d') ∧ f_Mod_putMap r = some ((), r') ∧ RD d' r' ∧ IV B d' ∧ (IX d → IX d') ∧ rP r' = rP r ∧ rKep r' = rKep r) := by
  unfold f_Map_update f_Mod_putMap
  rcases hM.1 with ⟨p1, p2⟩ | ⟨p, hp, hu, p1, p2⟩
  · rw [if_pos p1, if_pos (by rw [p2]; decide)]
    exact Or.inr ⟨d, r, rfl, rfl, h, I, id, rfl, rfl⟩
  · rw [if_neg (by rw [p1]; exact nI_m1 (by omega)), if_neg (by rw [p2]; exact nI_pos (by omega)), if_pos (by rw [hfa]; decide), L_Mod_putMap_19, if_neg (by decide)]
    obtain ⟨x1, a1, a2⟩ := R_pass0 (r19 := L_Mod_putMap_19 999) h I hp p2 hM
    rw [a1]
    rcases C_would (f := f) (w := w) I hp hu p1 with ⟨b1, b2⟩ | ⟨b1, b2⟩
    · obtain rfl : x1 = 1 := by
        rcases a2 with ⟨q, -⟩ | ⟨-, q⟩
        · exact q
        · obtain ⟨k, k1, k2⟩ := b2
          exact absurd (q k k1) k2
      rw [b1, bnd_some, if_neg (by decide)]
      unfold B_Map_update_12
      rw [if_pos (show ¬ ((1 : Int32), ()).1 = 0 from (by decide : ¬ (1 : Int32) = 0))]
      rcases R_writes h hfa with ⟨e1, e2, e3⟩ | ⟨d1, r1, e1, e2, e3, c1, c2, c3, c4, c5⟩
      · rw [e1, e2]
        exact Or.inl ⟨rfl, rfl, e3⟩
      · rw [e1, e2, thM_r]
        unfold B_Mod_putMap_170 B_Mod_putMap_174
        rw [if_pos (show ¬ ((1 : Int32), r1).1 = 0 from (by decide : ¬ (1 : Int32) = 0)), L_Mod_putMap_19, if_neg (by decide)]
        have I1 : IV B d1 := I.same c1 c3
        have hM1 : MR d1 m r1 := (hM.same (r' := r1) (fun q _ => by rw [rQ_mar c5]) (rQ_map c5)).un c3
        have hu1 : dUnr d1 p = 0 := by rw [c3]; exact hu
        obtain ⟨s', g1, t, g2, g3⟩ := R_pass1 (r19 := L_Mod_putMap_19 998) (x1 := 1) e3 I1 hp ((rQ_map c5).trans p2) hM1
        obtain ⟨d', g4, g5⟩ := C_pass (f := f) (w := w) I1 hp hu1 p1 t (fun c hc => by
          obtain ⟨n, n1, n2, n3⟩ := C_byte (f := f) (w := w) I1 hp hu1 hc p1
          refine ⟨(g2 c hc).1, ?_⟩
          rw [n2, tb_ext n1 (g2 c hc).1 (fun j hj => by rw [n3 j hj, (g2 c hc).2 j hj])])
        have e5 : L_Mod_putMap_26 (L_Mod_putMap_19 998) 1000 r1 1 (0 + 1) 0 = some ((), s'.1) := by
          show L_Mod_putMap_26 (L_Mod_putMap_19 998) 1000 r1 1 1 0 = _
          rw [g1, L_Mod_putMap_19, if_pos (by decide)]
        refine Or.inr ⟨d', s'.1, g4, e5, ?_, ?_, fun X => ?_, (rO_P g3.2).trans (rQ_P c5), (rO_kep g3.2).trans (rQ_kep c5)⟩
        · refine e3.row g5 (g3.congr fun k hk => ?_)
          unfold mV
          by_cases q : 5 ≤ k ∧ k < 5 + 5
          · rw [if_pos q, if_pos q]
          · rw [if_neg q, if_neg q]; exact (e3.1 p hp k hk).symm
        · refine I1.row (Nat.le_refl _) I1.1 g5.du fun k hk => ?_
          unfold mV
          by_cases q : 5 ≤ k ∧ k < 5 + 5
          · rw [if_pos q]
            have := vOKb (B := B) (j := k - 5) (g2 (k - 5) (by omega)).1
            rw [show 5 + (k - 5) = k by omega] at this
            exact this
          · rw [if_neg q]; exact vOK_of I1 hp hk
        · have X1 : IX d1 := X.same c1 c3
          have X2 := X1.2.1
          refine X1.row g5.du ?_ ?_ (X1.2.2 p hp)
          · exact X1.1 p hp
          · intro e
            subst e
            rcases X2 with q | q
            · exact absurd hu1 q
            · exact q
    · obtain rfl : x1 = 0 := by
        rcases a2 with ⟨-, k, k1, k2⟩ | ⟨q, -⟩
        · exact absurd (b2 k k1) k2
        · exact q
      rw [b1, bnd_some, if_pos rfl]
      exact Or.inr ⟨d, r, rfl, rfl, h, I, id, rfl, rfl⟩
theorem putMap_dark (h : rFau r = 1) : f_Mod_putMap r = some ((), r) := by
  unfold f_Mod_putMap
  by_cases e : rMap r < 0
  · rw [if_pos e]
  · rw [if_neg e, h, if_neg (by decide)]
end PM
