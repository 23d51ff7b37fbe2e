/-! calls -/
theorem mn_steps_up {tb : Tables} {e : Env} {f : Frame} {below : List Frame} {a b : State} (h : Steps tb e (f :: below) a b) : Steps tb e below a b := by
  obtain ⟨n, hn, w⟩ := h
  exact ⟨n, hn, fun k hk => (w k hk).weaken (mid := [f])⟩
theorem mn_lo_args (ad : Nat → Nat) : ∀ (av : List Value) (i : Nat), mn_lo ad (lv_args i av) = lv_args i (av.map (mn_v ad))
  | [], _ => rfl
  | v :: vs, i => by
    simp only [lv_args, List.map_cons, mn_lo]
    rw [mn_v_cat]
    exact congrArg _ (mn_lo_args ad vs _)
def mn_ws : List Value → Nat
  | [] => 0
  | v :: vs => v.category + mn_ws vs
theorem mn_sl_len (ad : Nat → Nat) : ∀ av : List Value, (lg_sl (av.map (mn_v ad))).length = mn_ws av
  | [] => rfl
  | v :: vs => by
    have h1 := mn_sl_len ad vs
    simp only [lg_sl, List.map_cons, List.flatMap_cons, List.length_append] at h1 ⊢
    rw [h1, mn_v_cat, mn_ws]
    rcases lv_cat v with h | h <;> rw [h] <;> rfl
theorem mn_S_trans {A : Nat → Prop} {H0 H H1 : Heap} {l l1 : List Loc} (h : va_S A H0 H l) (h1 : va_S A H H1 l1) : va_S A H0 H1 (l ++ l1) :=
  ⟨Nat.le_trans h.1 h1.1, fun q hq hA => by rw [h1.2.1 q (Nat.lt_of_lt_of_le hq h.1) hA, h.2.1 q hq hA], fun x hx => by
    rcases List.mem_append.mp hx with hx | hx
    · exact h.2.2 x hx
    · exact h1.2.2 x hx⟩
/-- what the tables say of a method -/
def mn_D (M : mn_M) (s : State) (mk : MethodId) (methk : Method) (ck : Code) : Prop :=
  s.methodNamed? M.1 = some mk ∧ s.vm.method? mk = some methk ∧ methk.code = some ck ∧ ck.code = M.2.1 ∧ ck.maxLocals = M.2.2.1 ∧ methk.sig.returnType = M.2.2.2.1 ∧ methk.locks = false ∧ ck.exceptionTable.toList.map (fun x => (x.startPc, x.endPc, x.handlerPc, x.catchType)) = M.2.2.2.2 ∧ parseMethodDescriptor M.1.desc = some methk.sig
/-- a method's word stands among the words -/
def mn_W (M : mn_M) : Prop := (Cond.code M.1 M.2.1 M.2.2.1 M.2.2.2.1 ∈ gd_tb ∧ M.2.2.2.2 = []) ∨ Cond.codeWith M.1 M.2.1 M.2.2.1 M.2.2.2.1 M.2.2.2.2 ∈ gd_tb
theorem mn_D_of {M : mn_M} {s : State} {args : Array Value} (hw : mn_W M) (hts : ∀ w ∈ gd_tb, w.before args s = true) : ∃ mk methk ck, mn_D M s mk methk ck := by
  rcases hw with ⟨hw, hh⟩ | hw
  · obtain ⟨mk, hnamed⟩ := Cond.code_named (hts _ hw)
    obtain ⟨methM, cM, h1, h2, h3, h4, h5, h6, h7, h8⟩ := Cond.code_spec hnamed (hts _ hw)
    refine ⟨mk, methM, cM, hnamed, h1, h2, h3, h4, h5, h6, ?_, h8⟩
    rw [hh]
    have : cM.exceptionTable = #[] := by simpa using h7
    rw [this]
    rfl
  · obtain ⟨mk, methM, cM, h0, h1, h2, h3, h4, h7, h5, h6, h8⟩ := Cond.codeWith_spec (hts _ hw)
    exact ⟨mk, methM, cM, h0, h1, h2, h3, h4, h5, h6, h7, h8⟩
section CALL
variable {p : Program} {l : Launch} {e : Env} {R : Room} {s : State} {m : MethodId} {args : Array Value} {below : List Frame} {meth : Method} {c : Code} {T : State} {locs : List Loc} {cells slots : Nat}
set_option maxHeartbeats 1000000 in
theorem mn_call {sc : Nat × (Nat → Int32)} {G : mn_G} {M Mc : mn_M} {d w k n : Nat} {ad : Nat → Nat} {h h1 : List mn_E} {o1 : mn_O} {av rest : List Value} {pc : Nat} {ls : Array Slot} {ig : Instr} {mk : MethodId} {methk : Method} {ck : Code}
    (hG : G.2.2.2.2 = sc) (hC : mn_C G M p e s m args meth c) (X : Stand p l e R s m args below meth c T locs cells slots) (hI : mn_I G ad h s T.heap locs) (hls : ls.size = M.2.2.1) (hdg : decode M.2.1 pc = .ok (ig, 3))
    (hD : mn_D Mc s mk methk ck) (hpl : plainFor Mc.1 = true) (hav : mn_ws av ≤ Mc.2.2.1)
    (hc : Ev sc d w k n Mc 0 (lv_args 0 av) [] h (some (o1, h1))) (hf : d + 1 ≤ R.frames) (hl : (rest.map fun v => v.category).sum + (Mc.2.2.1 + 11) + w ≤ R.locals) (hcl : cells + k + 1 ≤ R.cells) (hsl : slots + n + 6 ≤ R.slots) :
    ∃ (ad1 : Nat → Nat) (L : List Loc) (T' : State), Stand p l e R s m args below meth c T' (locs ++ L) (cells + k + mn_xk o1) (slots + n + 6 * mn_xk o1) ∧ h.length ≤ h1.length ∧ (∀ i, i < h.length ∨ h1.length ≤ i → ad1 i = ad i) ∧ mn_I G ad1 h1 s T'.heap (locs ++ L) ∧
      ((∃ v, o1 = .inl v ∧ ∀ acts, Steps p.tables e below (doInvoke e (T.setTop (F0 m pc ls (rest.map (mn_v ad)))) acts mk (av.map (mn_v ad)).toArray).1 (T'.setTop (F0 m (pc + 3) ls ((v.map (mn_v ad1)).toList ++ rest.map (mn_v ad))))) ∨
       (∃ x xa ce, o1 = .inr x ∧ T'.heap[xa]? = some ce ∧ ce.vm.isStatics = false ∧ s.vm.findClass (gd_ex x) = some ce.cls ∧ ∀ acts, Steps p.tables e below (doInvoke e (T.setTop (F0 m pc ls (rest.map (mn_v ad)))) acts mk (av.map (mn_v ad)).toArray).1 ((T'.setTop (F0 m pc ls (rest.map (mn_v ad)))).pushFrame (.throwing xa)))) := by
  obtain ⟨hn, hmk, hck, hbk, hmlk, hrk, hlk, hxk, -⟩ := hD
  have hal := X.warmed.alike
  have hnT : T.methodNamed? Mc.1 = some mk := X.named hn
  have hmT : T.vm.method? mk = some methk := by rw [hal.method?]; exact hmk
  have hpk : T.plainMethod mk := State.plainMethod.of_named hpl hnT hmT
  have hdc : decode c.code pc = .ok (ig, 3) := by rw [hC.2.1]; exact hdg
  obtain ⟨Y, hin⟩ := X.into (g := F0 m pc ls (rest.map (mn_v ad))) rfl (by rw [hC.2.2.1]; exact hls) hdc (av.map (mn_v ad)).toArray (R' := { frames := d, cells := k + 1, slots := n + 6, locals := w }) hmT hck hlk hpk hf
    (by
      show 2 * 0 + ((rest.map (mn_v ad)).map fun v => v.category).sum + (ck.maxLocals + 11) + w ≤ R.locals
      rw [mn_v_cats, hmlk]; omega) (by show cells + (k + 1) ≤ R.cells; omega) (by show slots + (n + 6) ≤ R.slots; omega)
  have hWs : s.WarmedH (T.calling (F0 m pc ls (rest.map (mn_v ad))) mk (av.map (mn_v ad)).toArray).vm := X.warmed
  have hsz : s.heap.size ≤ T.heap.size := hI.2.2.1.1
  have hCk : mn_C G Mc p e (T.calling (F0 m pc ls (rest.map (mn_v ad))) mk (av.map (mn_v ad)).toArray) mk (av.map (mn_v ad)).toArray methk ck :=
    ⟨hC.1, hbk, hmlk, hrk, findClass_of_methodNamed hnT, fun w hw => gd_rides hw hWs (hC.2.2.2.2.2.1 w hw), hlk, va_K.moved hal hC.2.2.2.2.2.2.2.1, Nat.le_trans hC.2.2.2.2.2.2.2.2.1 hsz, hxk, (name_of_methodNamed hnT hmT).1, hC.2.2.2.2.2.2.2.2.2.2.2.1,
      mn_T_moved hWs (fun q hq => hI.2.2.1.2.1 q (Nat.lt_of_lt_of_le hq hC.2.2.2.2.2.2.2.2.1) (by omega)) hC.2.2.2.2.2.2.2.2.2.2.2.2⟩
  have hIk : mn_I G ad h (T.calling (F0 m pc ls (rest.map (mn_v ad))) mk (av.map (mn_v ad)).toArray) T.heap [] := ⟨hI.1, hI.2.1, va_S.rf, hI.2.2.2.1.moved hal, hI.2.2.2.2⟩
  have hle := lv_entry (av.map (mn_v ad)) (n := Mc.2.2.1) (by rw [mn_sl_len]; exact hav)
  rw [← mn_lo_args] at hle
  have hEv := hc o1 h1 rfl G hG p l e { frames := d, cells := k + 1, slots := n + 6, locals := w } (T.calling (F0 m pc ls (rest.map (mn_v ad))) mk (av.map (mn_v ad)).toArray) mk (av.map (mn_v ad)).toArray (.java (F0 m pc ls (rest.map (mn_v ad))) :: below) methk ck T.heap [] 0 0 _ ad hCk ⟨Nat.le_refl _, Nat.le_refl _, by show 0 + k + 1 ≤ k + 1; omega, by show 0 + n + 6 ≤ n + 6; omega⟩ hIk hle
  obtain ⟨t, hst, oc, ad1, L, hrun, hend, hoc, hlen, hadi, hI1, hW1, hsame⟩ := (fun q => hEv _ q Y) rfl
  have hent : entryFrame mk (av.map (mn_v ad)).toArray ck.maxLocals = F0 mk 0 ((lg_sl (av.map (mn_v ad)) ++ List.replicate (Mc.2.2.1 - (lg_sl (av.map (mn_v ad))).length) Slot.unset).toArray) [] := by rw [hmlk]; exact lg_entry_eq mk _ _
  have hbase : ∀ (T' : State), T'.heap = t.heap → mn_I G ad1 h1 s T'.heap (locs ++ L) := fun T' hT' => by
    rw [hT']
    exact ⟨hI1.1, hI1.2.1, mn_S_trans hI.2.2.1 hI1.2.2.1, hI1.2.2.2.1.moved hal.symm, hI1.2.2.2.2⟩
  cases o1 with
  | inl v =>
    have hoc' : oc = .returned (v.map (mn_v ad1)) := hoc
    subst hoc'
    obtain ⟨T', X', hW', hB', ht⟩ := X.outOf (g := F0 m pc ls (rest.map (mn_v ad))) rfl hdc hend hW1 hsame
    have hT' : T'.heap = t.heap := by rw [ht]; rfl
    refine ⟨ad1, L, T', ?_, hlen, hadi, hbase T' hT', Or.inl ⟨v, rfl, fun acts => ?_⟩⟩
    · have e1 : cells + (0 + k + mn_xk (.inl v)) = cells + k + mn_xk (.inl v) := by omega
      have e2 : slots + (0 + n + 6 * mn_xk (.inl v)) = slots + n + 6 * mn_xk (.inl v) := by omega
      rw [e1, e2] at X'
      exact X'
    rw [hin acts, hent]
    have h9 := mn_steps_up hst
    rw [ht, hent] at h9
    exact h9
  | inr x =>
    obtain ⟨xa, ce, hoc', hce, hcv, hcf⟩ := (show ∃ (a : Addr) (ce : Cell), oc = .threw a ∧ t.heap[a]? = some ce ∧ ce.vm.isStatics = false ∧ (T.calling (F0 m pc ls (rest.map (mn_v ad))) mk (av.map (mn_v ad)).toArray).vm.findClass (gd_ex x) = some ce.cls from hoc)
    subst hoc'
    obtain ⟨T', X', hW', hB', ht⟩ := X.outOfThrown (g := F0 m pc ls (rest.map (mn_v ad))) rfl hend hW1 hsame
    have hT' : T'.heap = t.heap := by rw [ht]; rfl
    refine ⟨ad1, L, T', ?_, hlen, hadi, hbase T' hT', Or.inr ⟨x, xa, ce, rfl, by rw [hT']; exact hce, hcv, ?_, fun acts => ?_⟩⟩
    · have e1 : cells + (0 + k + mn_xk (.inr x)) = cells + k + mn_xk (.inr x) := by omega
      have e2 : slots + (0 + n + 6 * mn_xk (.inr x)) = slots + n + 6 * mn_xk (.inr x) := by omega
      rw [e1, e2] at X'
      exact X'
    · have h8 : T.vm.findClass (gd_ex x) = some ce.cls := hcf
      rw [hal.findClass] at h8
      exact h8
    · rw [hin acts, hent]
      have h9 := mn_steps_up hst
      rw [ht, hent] at h9
      exact h9
end CALL
