/-! the words that ride: what holds at a method's entry holds at its callees' -/
def gd_okw (w : Cond) : Bool := match w with
  | .methodLinkNest .. => true
  | .fieldLinkNest .. => true
  | .castable .. => true
  | .declares .. => true
  | w => goodWord w
def gd_tb : List Cond := lw_tbl.filter gd_okw
theorem gd_in {w : Cond} (i : Nat) (hi : lw_tbl[i]? = some w) (hw : gd_okw w = true) : w ∈ gd_tb := List.mem_filter.mpr ⟨List.mem_of_getElem? hi, hw⟩
theorem gd_rides {w : Cond} (h : w ∈ gd_tb) {A A' : Array Value} {s U : State} (hW : s.WarmedH U.vm) (hb : w.before A s = true) : w.before A' U = true := by
  have hk := (List.mem_filter.mp h).2
  cases w with
  | methodLinkNest a i x hh => exact va_Nw.use rfl (va_Nw.warmM hW (va_Nw.of rfl hb))
  | fieldLinkNest a i b n d hh => exact va_Nw.use rfl (va_Nw.warmF hW (va_Nw.of rfl hb))
  | castable a b => exact va_Nw.use rfl (va_Nw.warmC hW (va_Nw.of rfl hb))
  | declares x => exact va_Nw.use rfl (va_Nw.warmD hW (va_Nw.of rfl hb))
  | _ => exact word_at hW (good_of_word hk) hb
/-- a static field of Throwable that holds a reference, in a cell below 'base' -/
def mn_sf (base : Nat) (nm d : String) (s : State) : Prop := ∃ (c : ClassId) (k : Class) (i : Nat) (f : Field) (a : Addr) (cell : Cell) (u : RefV), s.fieldFound? Bundle.tN nm d = some (c, k, i, f) ∧ k.statics = some a ∧ a < base ∧ s.heap[a]? = some cell ∧ f.isStatic = true ∧ cell.vm.isStatics = true ∧ s.vm.findClass Bundle.tN = some c ∧ cell.cls = c ∧ f.slot < cell.slots.size ∧ k.staticTypes[f.slot]? = some f.type ∧ cell.slots[f.slot]? = some u.v
theorem mn_sf_moved {base : Nat} {nm d : String} {s U : State} (hal : s.vm.Alike U.vm) (hh : ∀ q, q < base → U.heap[q]? = s.heap[q]?) (h : mn_sf base nm d s) : mn_sf base nm d U := by
  obtain ⟨c, k, i, f, a, cell, u, h1, h2, h3, h4, h5, h6, h7, h8, h9, h10, h11⟩ := h
  obtain ⟨k', hk', he⟩ := State.fieldFound?_setVm (s := s) hal h1
  have hk2 : U.fieldFound? Bundle.tN nm d = some (c, k', i, f) := by simpa only [State.fieldFound?, State.vm_setVm] using hk'
  exact ⟨c, k', i, f, a, cell, u, hk2, by rw [he]; exact h2, h3, by rw [hh a h3]; exact h4, h5, h6, by rw [hal.findClass]; exact h7, h8, h9, by rw [he]; exact h10, h11⟩
theorem mn_sf_lays {base : Nat} {nm d : String} {s : State} (h : mn_sf base nm d s) (A : Array Value) : (Cond.laysStatic Bundle.tN nm d).before A s = true := by
  obtain ⟨c, k, i, f, a, cell, u, h1, h2, h3, h4, h5, h6, h7, h8, h9, h10, h11⟩ := h
  simp [Cond.before, Cond.holds, Cond.value, h1, h2, h4, h5, h6, h7, h8, h9, h10]
theorem mn_sf_ref {base : Nat} {nm d : String} {s : State} (h : mn_sf base nm d s) (A : Array Value) : (Cond.isRef (.static Bundle.tN nm d)).before A s = true := by
  obtain ⟨c, k, i, f, a, cell, u, h1, h2, h3, h4, h5, h6, h7, h8, h9, h10, h11⟩ := h
  have he : (Term.static Bundle.tN nm d).eval A s none [] s = some u.v := by simp [Term.eval, State.fieldNamed?, h1, h2, h4, h5, h6, h11]
  obtain ⟨v, hv⟩ := u
  cases v <;> simp [Cond.before, Cond.holds, Cond.value, he] at hv ⊢ <;> simp [Value.isRef] at hv
theorem mn_sf_of {nm d : String} {s : State} {A : Array Value} (h1 : (Cond.laysStatic Bundle.tN nm d).before A s = true) (h2 : (Cond.isRef (.static Bundle.tN nm d)).before A s = true) : mn_sf s.heap.size nm d s := by
  simp only [Cond.before, Cond.holds, Cond.value] at h1
  cases hc : s.vm.findClass Bundle.tN with
  | none => simp [hc] at h1
  | some c =>
    cases hf : s.fieldFound? Bundle.tN nm d with
    | none => simp [hc, hf] at h1
    | some z =>
      obtain ⟨c', k, i, f⟩ := z
      cases hs : k.statics with
      | none => simp [hc, hf, hs] at h1
      | some a =>
        cases hcell : s.heap[a]? with
        | none => simp [hc, hf, hs, hcell] at h1
        | some cell =>
          simp [hc, hf, hs, hcell] at h1
          obtain ⟨⟨⟨⟨⟨g1, g2⟩, g3⟩, g4⟩, g5⟩, g6⟩ := h1
          subst g2
          obtain ⟨u, hu⟩ := Cond.staticRefV hf g1 hs hcell g3 h2
          exact ⟨c, k, i, f, a, cell, u, hf, hs, (Array.getElem?_eq_some_iff.mp hcell).1, hcell, g1, g3, hc, g4, g5, g6, hu⟩
/-- exceptions that are no others: what a catch must pass by -/
def gd_nc : List (Nat × Nat) := [(1, 2), (1, 3), (1, 4), (1, 5), (2, 1), (2, 3), (2, 4), (2, 5), (3, 1), (3, 2), (3, 4), (3, 5), (4, 1), (4, 2), (4, 3), (4, 5), (5, 1), (5, 2), (5, 3), (5, 4)]
def mn_nc (s : State) : Prop := ∀ q ∈ gd_nc, ∃ c1 c2 : ClassId, s.vm.findClass (gd_ex q.1) = some c1 ∧ s.vm.findClass (gd_ex q.2) = some c2 ∧ s.vm.assignable c1 c2 = false
theorem mn_nc_moved {s U : State} (hal : s.vm.Alike U.vm) (h : mn_nc s) : mn_nc U := by
  intro q hq
  obtain ⟨c1, c2, h1, h2, h3⟩ := h q hq
  exact ⟨c1, c2, by rw [hal.findClass]; exact h1, by rw [hal.findClass]; exact h2, by rw [hal.assignable]; exact h3⟩
def mn_T (G : mn_G) (e : Env) (s : State) : Prop := e.platform.stackTraces = false ∧ mn_sf G.2.2.1 "UNASSIGNED_STACK" Bundle.steD s ∧ mn_sf G.2.2.1 "SUPPRESSED_SENTINEL" Bundle.listD s ∧ mn_nc s
theorem mn_T_moved {G : mn_G} {e : Env} {s U : State} (hW : s.WarmedH U.vm) (hh : ∀ q, q < G.2.2.1 → U.heap[q]? = s.heap[q]?) (h : mn_T G e s) : mn_T G e U :=
  ⟨h.1, mn_sf_moved hW.alike hh h.2.1, mn_sf_moved hW.alike hh h.2.2.1, mn_nc_moved hW.alike h.2.2.2⟩
