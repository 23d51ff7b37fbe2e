/-! MINI WORLDS: a world is a list of entries that name one another by their places; 'ad' says where each lies in the heap. -/
abbrev mn_E : Type := (Nat × vp_A) ⊕ (Nat × List Value)
abbrev mn_O : Type := Option Value ⊕ Nat
abbrev mn_R : Type := Option (mn_O × List mn_E)
/-- a method: name, code, locals, answer's type, handlers -/
abbrev mn_M : Type := MethodName × ByteArray × Nat × Option FieldType × List (Nat × Nat × Nat × Nat)
/-- a run: classes and slots, array classes, the first new cell, the script's cell, its length, its ints -/
abbrev mn_G : Type := va_G × (Nat → ClassId) × Nat × Nat × Nat × (Nat → Int32)
abbrev mn_scr : Nat := 1000000
def mn_v (ad : Nat → Nat) (v : Value) : Value := match v with
  | .ref i => .ref (ad i)
  | w => w
theorem mn_v_cat (ad : Nat → Nat) (v : Value) : (mn_v ad v).category = v.category := by cases v <;> rfl
theorem mn_v_cats (ad : Nat → Nat) (l : List Value) : ((l.map (mn_v ad)).map fun v => v.category).sum = (l.map fun v => v.category).sum := by
  rw [List.map_map]
  congr 1
  exact List.map_congr_left (fun v _ => mn_v_cat ad v)
def mn_e (dA : Nat → ClassId) (ad : Nat → Nat) (e : mn_E) : va_E := match e with
  | .inl x => .inl (dA x.1, x.2)
  | .inr x => .inr (x.1, x.2.map (mn_v ad))
def mn_w (dA : Nat → ClassId) (ad : Nat → Nat) (h : List mn_E) : va_W := h.mapIdx (fun i e => (ad i, mn_e dA ad e))
theorem mn_w_len {dA : Nat → ClassId} {ad : Nat → Nat} {h : List mn_E} : (mn_w dA ad h).length = h.length := by simp [mn_w]
theorem mn_w_at {dA : Nat → ClassId} {ad : Nat → Nat} {h : List mn_E} {q : Nat} {e : mn_E} (hq : h[q]? = some e) : (mn_w dA ad h)[q]? = some (ad q, mn_e dA ad e) := by
  simp [mn_w, List.getElem?_mapIdx, hq]
theorem mn_w_set {dA : Nat → ClassId} {ad : Nat → Nat} {h : List mn_E} {q : Nat} {e : mn_E} : (mn_w dA ad h).set q (ad q, mn_e dA ad e) = mn_w dA ad (h.set q e) := by
  apply List.ext_getElem?
  intro i
  by_cases hi : q = i
  · subst hi
    by_cases hl : q < h.length
    · rw [List.getElem?_set_self (by rw [mn_w_len]; exact hl), mn_w_at (List.getElem?_set_self hl)]
    · have h1 : ((mn_w dA ad h).set q (ad q, mn_e dA ad e))[q]? = none := List.getElem?_eq_none (by rw [List.length_set, mn_w_len]; omega)
      have h2 : (mn_w dA ad (h.set q e))[q]? = none := List.getElem?_eq_none (by rw [mn_w_len, List.length_set]; omega)
      rw [h1, h2]
  · rw [List.getElem?_set_ne hi]
    simp [mn_w, List.getElem?_mapIdx, List.getElem?_set_ne hi]
def mn_vok (n : Nat) (v : Value) : Bool := match v with
  | .ref i => !(i == n)
  | _ => true
theorem mn_v_up {ad : Nat → Nat} {n a : Nat} {v : Value} (h : mn_vok n v = true) : mn_v (va_up ad n a) v = mn_v ad v := by
  cases v with
  | ref i =>
    have hi : i ≠ n := by simpa [mn_vok] using h
    simp [mn_v, va_up, hi]
  | _ => rfl
def mn_eok (n : Nat) (e : mn_E) : Bool := match e with
  | .inl _ => true
  | .inr x => x.2.all (mn_vok n)
theorem mn_map_up {ad : Nat → Nat} {n a : Nat} {l : List Value} (h : l.all (mn_vok n) = true) : l.map (mn_v (va_up ad n a)) = l.map (mn_v ad) :=
  List.map_congr_left (fun v hv => mn_v_up (List.all_eq_true.mp h v hv))
theorem mn_e_up {dA : Nat → ClassId} {ad : Nat → Nat} {n a : Nat} {e : mn_E} (h : mn_eok n e = true) : mn_e dA (va_up ad n a) e = mn_e dA ad e := by
  cases e with
  | inl x => rfl
  | inr x => simp only [mn_e]; rw [mn_map_up h]
theorem mn_w_up {dA : Nat → ClassId} {ad : Nat → Nat} {a : Nat} {h : List mn_E} {e : mn_E} (hok : h.all (mn_eok h.length) = true) : mn_w dA (va_up ad h.length a) (h ++ [e]) = mn_w dA ad h ++ [(a, mn_e dA (va_up ad h.length a) e)] := by
  apply List.ext_getElem?
  intro i
  by_cases hi : i < h.length
  · rw [List.getElem?_append_left (by rw [mn_w_len]; exact hi), mn_w_at (List.getElem?_eq_getElem hi), mn_w_at (e := h[i]) (by rw [List.getElem?_append_left hi]; exact List.getElem?_eq_getElem hi), va_up_ne _ _ (by omega), mn_e_up (List.all_eq_true.mp hok _ (List.getElem_mem hi))]
  · by_cases hi2 : i = h.length
    · subst hi2
      rw [List.getElem?_append_right (by rw [mn_w_len]; exact Nat.le_refl _), mn_w_at (e := e) (by simp), va_up_self]
      simp [mn_w_len]
    · have h1 : (mn_w dA (va_up ad h.length a) (h ++ [e]))[i]? = none := List.getElem?_eq_none (by rw [mn_w_len]; simp; omega)
      have h2 : (mn_w dA ad h ++ [(a, mn_e dA (va_up ad h.length a) e)])[i]? = none := List.getElem?_eq_none (by simp [mn_w_len]; omega)
      rw [h1, h2]
/-- values that keep their meaning while the world grows from n to n' -/
def mn_vin (n n' : Nat) (v : Value) : Bool := match v with
  | .ref i => decide (i < n) || decide (n' ≤ i)
  | _ => true
theorem mn_v_in {ad ad' : Nat → Nat} {n n' : Nat} (ha : ∀ i, i < n ∨ n' ≤ i → ad' i = ad i) {v : Value} (h : mn_vin n n' v = true) : mn_v ad' v = mn_v ad v := by
  cases v with
  | ref i =>
    have hi : i < n ∨ n' ≤ i := by simpa [mn_vin] using h
    simp [mn_v, ha i hi]
  | _ => rfl
theorem mn_map_in {ad ad' : Nat → Nat} {n n' : Nat} (ha : ∀ i, i < n ∨ n' ≤ i → ad' i = ad i) {l : List Value} (h : l.all (mn_vin n n') = true) : l.map (mn_v ad') = l.map (mn_v ad) :=
  List.map_congr_left (fun v hv => mn_v_in ha (List.all_eq_true.mp h v hv))
def mn_lo (ad : Nat → Nat) (lo : List (Nat × Value)) : List (Nat × Value) := lo.map (fun q => (q.1, mn_v ad q.2))
theorem mn_lo_up {ad : Nat → Nat} {n a : Nat} {lo : List (Nat × Value)} (h : lo.all (fun q => mn_vok n q.2) = true) : mn_lo (va_up ad n a) lo = mn_lo ad lo :=
  List.map_congr_left (fun q hq => by rw [mn_v_up (List.all_eq_true.mp h q hq)])
theorem mn_lo_in {ad ad' : Nat → Nat} {n n' : Nat} (ha : ∀ i, i < n ∨ n' ≤ i → ad' i = ad i) {lo : List (Nat × Value)} (h : lo.all (fun q => mn_vin n n' q.2) = true) : mn_lo ad' lo = mn_lo ad lo :=
  List.map_congr_left (fun q hq => by rw [mn_v_in ha (List.all_eq_true.mp h q hq)])
theorem mn_mem_of_lookup {lo : List (Nat × Value)} {i : Nat} {v : Value} (h : lo.lookup i = some v) : (i, v) ∈ lo := by
  induction lo with
  | nil => cases h
  | cons q r ih =>
    obtain ⟨j, w⟩ := q
    by_cases hj : i = j
    · subst hj
      simp [List.lookup] at h
      subst h
      exact List.mem_cons_self
    · have : (i == j) = false := by simpa using hj
      simp [List.lookup, this] at h
      exact List.mem_cons_of_mem _ (ih h)
theorem mn_lo_at {ad : Nat → Nat} {ls : Array Slot} {nL i : Nat} {lo : List (Nat × Value)} {v : Value} (hl : lv_has ls nL (mn_lo ad lo)) (h : lo.lookup i = some v) : ls[i]? = some (.val (mn_v ad v)) :=
  hl.2.2 (i, mn_v ad v) (List.mem_map.mpr ⟨(i, v), mn_mem_of_lookup h, rfl⟩)
def mn_st1 (lo : List (Nat × Value)) (i : Nat) (v : Value) : List (Nat × Value) := (i, v) :: lo.filter (fun q => !(q.1 == i) && !(q.1 + 1 == i && q.2.category == 2))
def mn_st2 (lo : List (Nat × Value)) (i : Nat) (v : Value) : List (Nat × Value) := (i, v) :: lo.filter (fun q => !(q.1 == i) && (!(q.1 == i + 1) && !(q.1 + 1 == i && q.2.category == 2)))
theorem mn_lo_st1 (ad : Nat → Nat) (lo : List (Nat × Value)) (i : Nat) (v : Value) : (i, mn_v ad v) :: (mn_lo ad lo).filter (fun q => !(q.1 == i) && !(q.1 + 1 == i && q.2.category == 2)) = mn_lo ad (mn_st1 lo i v) := by
  simp only [mn_st1, mn_lo, List.map_cons, List.filter_map]
  congr 2
  exact List.filter_congr (fun q _ => by simp [Function.comp, mn_v_cat])
theorem mn_lo_st2 (ad : Nat → Nat) (lo : List (Nat × Value)) (i : Nat) (v : Value) : (i, mn_v ad v) :: (mn_lo ad lo).filter (fun q => !(q.1 == i) && (!(q.1 == i + 1) && !(q.1 + 1 == i && q.2.category == 2))) = mn_lo ad (mn_st2 lo i v) := by
  simp only [mn_st2, mn_lo, List.map_cons, List.filter_map]
  congr 2
  exact List.filter_congr (fun q _ => by simp [Function.comp, mn_v_cat])
theorem mn_lo_sub {ad : Nat → Nat} {ls : Array Slot} {nL : Nat} {lo lo' : List (Nat × Value)} (hl : lv_has ls nL (mn_lo ad lo)) (h : ∀ q ∈ lo', q ∈ lo) : lv_has ls nL (mn_lo ad lo') :=
  ⟨hl.1, hl.2.1, fun q hq => by
    obtain ⟨z, hz, rfl⟩ := List.mem_map.mp hq
    exact hl.2.2 _ (List.mem_map.mpr ⟨z, h z hz, rfl⟩)⟩
