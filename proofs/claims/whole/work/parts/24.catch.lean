/-! catching: a catch type that isn't resolved yet is resolved by the search -/
section FH
variable {E : CtlPost} {e : Env} {d : Bool} {acts : List Action} {s : State} {f : JFrame} {a : Addr} {Q : Handler → Pre}
theorem fh_cold {x : ExceptionTableEntry} {t : List ExceptionTableEntry} {c : ClassId} {cell : Cell} {vm' : Vm} (hx : covers x f.pc = true) (h0 : x.catchType ≠ 0) (hg : (Jvm.resolveClass f.method.cls x.catchType).Gives e.toSetting s.vm (.ok c) vm') (hsz : vm'.classes.size ≤ s.vm.classes.size)
    (hcell : s.heap[a]? = some cell) (hobj : ∀ k, cell.vm ≠ .statics k) (hk : ∃ k, vm'.classes[cell.cls]? = some k) (hc : ∃ k, vm'.classes[c]? = some k) :
    wp (findHandler.go f a (x :: t)) Q E e d acts s ↔ if vm'.assignable cell.cls c = true then Q (.found x.handlerPc) d acts (s.setVm vm') else wp (findHandler.go f a t) Q E e d acts (s.setVm vm') := by
  simp only [covers] at hx
  obtain ⟨ha, ht⟩ := hg.op (op := VmOp.resolveClass f.method.cls x.catchType) rfl
  have hsz' : ((VmOp.resolveClass f.method.cls x.catchType).tables e s.vm).classes.size ≤ s.vm.classes.size := by rw [ht]; exact hsz
  cases hfit : vm'.assignable cell.cls c <;>
    simp [findHandler.go, hx, h0, W.vmOp_same _ hsz', ha, ht, hcell, hobj, hk, hc, hfit, VmOp.dirties, VmOp.acts]
end FH
/-- the search ends at a handler, at other tables -/
def FindsC (e : Env) (s : State) (f : JFrame) (a : Addr) (pc : Nat) (vm' : Vm) : Prop := ∀ (Q : Handler → Pre) (E : CtlPost) (d : Bool) (acts : List Action), wp (findHandler f a) Q E e d acts s ↔ Q (.found pc) d acts (s.setVm vm')
theorem catchC_step {e : Env} {s : State} {a : Addr} {f : JFrame} {r : List Frame} {pc : Nat} {vm' : Vm} (hfind : FindsC e s f a pc vm') : (stepThrowing e s a (.java f :: r)).Is ((s.setVm vm').setFrames (.java { f with pc := pc, stack := [.ref a] } :: r)) [] := by
  simp only [stepThrowing, searchFrame, vmDo]
  generalize hr : Sem.go _ e false [] s = res
  obtain ⟨as, rfl, ha⟩ := Sem.eq_ok_of hr (a := Handler.found pc) (s' := s.setVm vm') (acts' := []) (by simp [hfind _ _ _ _])
  exact ⟨rfl, ha⟩
theorem catchC_steps {tb : Tables} {e : Env} {s target : State} {g : JFrame} {c : Code} {below : List Frame} {a : Addr} {vm' : Vm} (h : At s g.method c below) {pc : Nat} (hfind : FindsC e ((s.setTop g).pushFrame (.throwing a)) g a pc vm')
    (hrest : Steps tb e below ((s.setVm vm').setTop { g with pc := pc, stack := [.ref a] }) target) : Steps tb e below ((s.setTop g).pushFrame (.throwing a)) target := by
  obtain ⟨hgo, hw⟩ := h.throwing a
  refine Steps.head hgo hw ?_
  rw [stepThread_throwing (frames_entered h.top _), (catchC_step (s := (s.setTop g).pushFrame (.throwing a)) hfind).1]
  obtain ⟨g₀, hg⟩ := Option.isSome_iff_exists.mp h.top
  obtain ⟨r, hr⟩ := State.topJava?_eq_some.mp hg
  have hr' : (s.setVm vm').frames = .java g₀ :: r := hr
  rw [State.setTop_of_frames _ hr'] at hrest
  have e1 : (((s.setTop g).pushFrame (.throwing a)).setVm vm') = (s.setVm vm').setFrames (.throwing a :: .java g :: r) := by
    rw [State.pushFrame, State.setTop_of_frames _ hr, State.setFrames_setFrames]
    have : (s.setFrames (.java g :: r)).frames = .java g :: r := by
      have h9 := frames_entered (s := s) (g := g) h.top (.throwing a)
      rw [State.frames_setFrames _ (State.cur_lt_of_frames hr)]
    rw [this]
    rfl
  rw [e1, State.setFrames_setFrames, hr]
  exact hrest
theorem gd_nc_all : ∀ a b : Nat, (1 ≤ a ∧ a ≤ 5) → (1 ≤ b ∧ b ≤ 5) → a ≠ b → (a, b) ∈ gd_nc := by
  intro a b ha hb hne
  have h1 : a = 1 ∨ a = 2 ∨ a = 3 ∨ a = 4 ∨ a = 5 := by omega
  have h2 : b = 1 ∨ b = 2 ∨ b = 3 ∨ b = 4 ∨ b = 5 := by omega
  rcases h1 with rfl | rfl | rfl | rfl | rfl <;> rcases h2 with rfl | rfl | rfl | rfl | rfl <;> first | exact absurd rfl hne | decide
/-- the clauses of a try around pc: pool entry, handler, which exception -/
abbrev mn_H : Type := Nat × Nat × Nat
def mn_pick (hs : List mn_H) (x : Nat) : Option Nat := match hs with
  | [] => none
  | q :: r => if q.2.2 = x then some q.2.1 else mn_pick r x
section CA
variable {p : Program} {l : Launch} {e : Env} {R : Room} {s : State} {m : MethodId} {args : Array Value} {below : List Frame} {meth : Method} {c : Code} {T : State} {locs : List Loc} {cells slots : Nat}
set_option maxHeartbeats 1000000 in
/-- the search through the clauses -/
theorem mn_search {own : String} {x hpc : Nat} {a : Addr} {ce : Cell} (hx : 1 ≤ x ∧ x ≤ 5) (hown : s.vm.findClass own = some m.cls) (hpl : e.platform.magicAccessors = ({} : Platform).magicAccessors) (hnc : mn_nc s) (hca : ∀ y, 1 ≤ y → y ≤ 5 → (Cond.castable (gd_ex y) (gd_ex y)).before args s = true) (hcf : s.vm.findClass (gd_ex x) = some ce.cls) (hcv : ce.vm.isStatics = false)
    (f : JFrame) (hf : f.method.cls = m.cls) : ∀ (hs : List mn_H) (es : List ExceptionTableEntry), es.map (fun z => (z.catchType, z.handlerPc)) = hs.map (fun q => (q.1, q.2.1)) → (∀ z ∈ es, covers z f.pc = true) → (∀ q ∈ hs, q.1 ≠ 0 ∧ (1 ≤ q.2.2 ∧ q.2.2 ≤ 5) ∧ (Cond.classLink own q.1 (gd_ex q.2.2)).before args s = true) → mn_pick hs x = some hpc →
    ∀ (U : State), U.heap[a]? = some ce → s.WarmedH U.vm → ∃ vm', s.WarmedH vm' ∧ ∀ (Q : Handler → Pre) (E : CtlPost) (d : Bool) (acts : List Action), wp (findHandler.go f a es) Q E e d acts U ↔ Q (.found hpc) d acts (U.setVm vm') := by
  intro hs
  induction hs with
  | nil => intro es _ _ _ hp; cases hp
  | cons q r ih =>
    intro es hes hcov hq hp U hU hW
    cases es with
    | nil => cases hes
    | cons z t =>
      simp only [List.map_cons, List.cons.injEq, Prod.mk.injEq] at hes
      obtain ⟨⟨h1, h2⟩, h3⟩ := hes
      obtain ⟨hq0, hq1, hq2⟩ := hq q List.mem_cons_self
      obtain ⟨cC, hfc, hcl⟩ := Cond.classLink_spec hown hq2 e.platform hpl
      obtain ⟨hg, hwarm, hready⟩ := State.classEntry (e := e) hW hcl
      generalize U.vm.noted m.cls q.1 (.cls cC) = vm₁ at hg hwarm hready
      have hal := hwarm.alike
      have hk1 : ∃ k, vm₁.classes[ce.cls]? = some k := by
        obtain ⟨k, hk⟩ := Vm.classAt_of_findClass hcf
        obtain ⟨k', hk', -⟩ := hal.2.2 _ _ hk
        exact ⟨k', hk'⟩
      have hk2 : ∃ k, vm₁.classes[cC]? = some k := by
        obtain ⟨k, hk⟩ := Vm.classAt_of_findClass hfc
        obtain ⟨k', hk', -⟩ := hal.2.2 _ _ hk
        exact ⟨k', hk'⟩
      have hsz : vm₁.classes.size ≤ U.vm.classes.size := by
        rw [hwarm.2.1, hW.2.1]; exact Nat.le_refl _
      have key := fun (Q : Handler → Pre) (E : CtlPost) (d : Bool) (acts : List Action) => fh_cold (E := E) (e := e) (d := d) (acts := acts) (s := U) (f := f) (a := a) (Q := Q) (x := z) (t := t) (c := cC) (cell := ce) (vm' := vm₁) (hcov z List.mem_cons_self) (by rw [h1]; exact hq0) (by rw [hf, h1]; exact hg) hsz hU (VmData.ne_statics_of hcv) hk1 hk2
      by_cases hx2 : q.2.2 = x
      · have hp' : q.2.1 = hpc := by
          simp only [mn_pick, if_pos hx2] at hp
          exact Option.some.inj hp
        refine ⟨vm₁, hwarm, fun Q E d acts => ?_⟩
        have hasg : vm₁.assignable ce.cls cC = true := by
          obtain ⟨c3, c4, hc3, hc4, hasg⟩ := Cond.castable_spec (hca x hx.1 hx.2)
          cases Option.some.inj (hc3.symm.trans hcf)
          rw [hx2] at hfc
          cases Option.some.inj (hc4.symm.trans hcf)
          cases Option.some.inj (hfc.symm.trans hcf)
          rw [hal.assignable]; exact hasg
        rw [key, if_pos hasg, h2, hp']
      · have hp' : mn_pick r x = some hpc := by
          simpa only [mn_pick, if_neg hx2] using hp
        obtain ⟨vm', hw', hrest⟩ := ih t h3 (fun y hy => hcov y (List.mem_cons_of_mem _ hy)) (fun y hy => hq y (List.mem_cons_of_mem _ hy)) hp' (U.setVm vm₁) hU hwarm
        refine ⟨vm', hw', fun Q E d acts => ?_⟩
        have hno : vm₁.assignable ce.cls cC = false := by
          have hmem : (x, q.2.2) ∈ gd_nc := by
            exact gd_nc_all x q.2.2 hx hq1 (fun q9 => hx2 q9.symm)
          obtain ⟨c1, c2, g1, g2, g3⟩ := hnc _ hmem
          cases Option.some.inj (g1.symm.trans hcf)
          cases Option.some.inj (g2.symm.trans hfc)
          rw [hal.assignable]; exact g3
        rw [key, if_neg (by rw [hno]; decide)]
        exact hrest Q E d acts
end CA
/-- the handler's first instruction puts the exception away -/
def mn_as (M : mn_M) (hpc j ln : Nat) : Prop := j < M.2.2.1 ∧ ((∃ z : Fin 4, (z : Nat) = j ∧ decode M.2.1 hpc = .ok (.astore_n z, 1) ∧ ln = 1) ∨ (decode M.2.1 hpc = .ok (.astore j, 2) ∧ ln = 2))
section CC
variable {sc : Nat × (Nat → Int32)} {d w k n : Nat} {M : mn_M} {pc : Nat} {lo : List (Nat × Value)} {h : List mn_E} {r : mn_R}
set_option maxHeartbeats 2000000 in
/-- a call inside a try -/
theorem ev_callC {Mc : mn_M} {d1 w1 k1 n1 k2 n2 en : Nat} {stk av rest : List Value} {h1 : List mn_E} {o1 : mn_O} {ig : Instr} (hs : List mn_H) (hhs : M.2.2.2.2 = hs.map (fun q => (0, en, q.2.1, q.1))) (hen : pc < en) (hwd : ∀ q ∈ hs, q.1 ≠ 0 ∧ (1 ≤ q.2.2 ∧ q.2.2 ≤ 5) ∧ Cond.classLink M.1.cls q.1 (gd_ex q.2.2) ∈ gd_tb) (hcs : ∀ y, 1 ≤ y → y ≤ 5 → Cond.castable (gd_ex y) (gd_ex y) ∈ gd_tb)
    (hi : mn_inv M Mc pc stk av rest h) (hdg : decode M.2.1 pc = .ok (ig, 3)) (hpl : plainFor Mc.1 = true) (hav : mn_ws av ≤ Mc.2.2.1) (hd1 : d1 + 1 ≤ d) (hw1 : (rest.map fun v => v.category).sum + (Mc.2.2.1 + 11) + w1 ≤ w) (hk : k1 + 1 + k2 ≤ k) (hn : n1 + 6 + n2 ≤ n)
    (hc : Ev sc d1 w1 k1 n1 Mc 0 (lv_args 0 av) [] h (some (o1, h1))) (hkeep : mn_keep h h1 lo rest) (kr : ∀ v, o1 = .inl v → Ev sc d w k2 n2 M (pc + 3) lo (v.toList ++ rest) h1 r)
    (kx : ∀ x, o1 = .inr x → (1 ≤ x ∧ x ≤ 5) ∧ ∃ hpc j ln, mn_pick hs x = some hpc ∧ mn_as M hpc j ln ∧ Ev sc d w k2 n2 M (hpc + ln) [] [] h1 r) : Ev sc d w k n M pc lo stk h r := by
  intro o h' hr G hG p l e R s m args below meth c H locs cells slots ls ad hC hR hI hl
  intro T hT X
  subst hT
  obtain ⟨mk, methk, ck, vm₁, hD, X₁, hstep⟩ := hi G p l e R s m args below meth c T locs cells slots ls ad hC X hI
  have hls : ls.size = M.2.2.1 := hl.1
  obtain ⟨ad1, L, T', X', hlen, hadi, hI', hcase⟩ := mn_call (M := M) (Mc := Mc) (ls := ls) (pc := pc) (rest := rest) hG hC X₁ hI hls hdg hD hpl hav hc (Nat.le_trans hd1 hR.1) (Nat.le_trans hw1 hR.2.1) (by have := hR.2.2.1; omega) (by have := hR.2.2.2; omega)
  obtain ⟨hk1, hk2⟩ := mn_keep_of hkeep hadi
  rcases hcase with ⟨v, rfl, hsteps⟩ | ⟨x, xa, ce, rfl, hce, hcv, hcf, hsteps⟩
  · have hgo := kr v rfl o h' hr G hG p l e R s m args below meth c T'.heap (locs ++ L) (cells + k1) (slots + n1) ls ad1 hC ⟨hR.1, hR.2.1, by have := hR.2.2.1; omega, by have := hR.2.2.2; omega⟩ hI' (by rw [hk1]; exact hl)
    obtain ⟨t, hs', oc, ad', locs', q1, q2, q3, q4, q5, q6, q7, q8⟩ := hgo T' rfl X'
    refine ⟨t, hstep _ (fun acts => (hsteps acts).trans ?_), oc, ad', locs', q1, q2, q3, Nat.le_trans hlen q4, fun i hi => ?_, q6, q7, ?_⟩
    · rw [List.map_append, hk2] at hs'
      have h8 : (v.toList.map (mn_v ad1)) = (v.map (mn_v ad1)).toList := by cases v <;> rfl
      rw [h8] at hs'
      exact hs'
    · rw [q5 i (by omega)]
      exact hadi i (by omega)
    · exact q8.mono (by omega) (by omega)
  · obtain ⟨hx15, hpc, j, ln, hpick, ⟨hj, has⟩, kk⟩ := kx x rfl
    have hts := hC.2.2.2.2.2.1
    have hpl2 : e.platform.magicAccessors = ({} : Platform).magicAccessors := by rw [X.admits.platform]
    have hex : c.exceptionTable.toList.map (fun z => (z.startPc, z.endPc, z.handlerPc, z.catchType)) = hs.map (fun q => (0, en, q.2.1, q.1)) := by rw [hC.2.2.2.2.2.2.2.2.2.1]; exact hhs
    have hmap : c.exceptionTable.toList.map (fun z => (z.catchType, z.handlerPc)) = hs.map (fun q => (q.1, q.2.1)) := by
      have h9 := congrArg (List.map (fun (z : Nat × Nat × Nat × Nat) => (z.2.2.2, z.2.2.1))) hex
      rw [List.map_map, List.map_map] at h9
      exact h9
    have hcov : ∀ z ∈ c.exceptionTable.toList, covers z (F0 m pc ls (rest.map (mn_v ad))).pc = true := fun z hz => by
      have h9 : (z.startPc, z.endPc, z.handlerPc, z.catchType) ∈ hs.map (fun q => (0, en, q.2.1, q.1)) := by
        rw [← hex]
        exact List.mem_map.mpr ⟨z, hz, rfl⟩
      obtain ⟨q, -, hq⟩ := List.mem_map.mp h9
      simp only [Prod.mk.injEq] at hq
      have hen' : pc < en := hen
      simp [covers, ← hq.1, ← hq.2.1, hen']
    have hce2 : (((T'.setTop (F0 m pc ls (rest.map (mn_v ad)))).pushFrame (.throwing xa))).heap[xa]? = some ce := by
      rw [Stand.throwing_heap]; exact hce
    obtain ⟨vm', hWv, hsrch⟩ := mn_search (s := s) (m := m) (args := args) (e := e) (own := M.1.cls) hx15 hC.2.2.2.2.1 hpl2 hC.2.2.2.2.2.2.2.2.2.2.2.2.2.2.2 (fun y a b => hts _ (hcs y a b)) hcf hcv (F0 m pc ls (rest.map (mn_v ad))) rfl hs c.exceptionTable.toList hmap hcov (fun q hq => ⟨(hwd q hq).1, (hwd q hq).2.1, hts _ (hwd q hq).2.2⟩) hpick _ hce2 (by rw [Stand.throwing_vm]; exact X'.warmed)
    have hfind : FindsC e ((T'.setTop (F0 m pc ls (rest.map (mn_v ad)))).pushFrame (.throwing xa)) (F0 m pc ls (rest.map (mn_v ad))) xa hpc vm' := fun Q E d acts => by
      rw [W.findHandler_eq (meth := meth) (code := c) (by rw [Stand.throwing_vm]; exact X'.method') X'.code]
      exact hsrch Q E d acts
    have X2 := X'.noted hWv
    have hW2 : W p l e R s m args below meth c T'.heap (locs ++ L) (cells + k1 + 1) (slots + n1 + 6) (mn_Q G s below ad1 h1 o h' (cells + k1 + 1 + k2 + mn_xk o) (slots + n1 + 6 + n2 + 6 * mn_xk o)) (F0 m hpc ls [.ref xa]) := by
      have hgo := fun ls' (hl' : lv_has ls' M.2.2.1 (mn_lo ad1 [])) => kk o h' hr G hG p l e R s m args below meth c T'.heap (locs ++ L) (cells + k1 + 1) (slots + n1 + 6) ls' ad1 hC ⟨hR.1, hR.2.1, by have := hR.2.2.1; omega, by have := hR.2.2.2; omega⟩ hI' hl'
      rcases has with ⟨z, hz, hdz, rfl⟩ | ⟨hdz, rfl⟩
      · exact lv_astore_n hC.1 hC.2.1 hdz hz hl hj rfl (fun ls' hl' => hgo ls' ⟨hl'.1, hl'.2.1, fun q hq => by cases hq⟩)
      · exact lv_astore hC.1 hC.2.1 hdz hl hj rfl (fun ls' hl' => hgo ls' ⟨hl'.1, hl'.2.1, fun q hq => by cases hq⟩)
    obtain ⟨t, hs', oc, ad', locs', q1, q2, q3, q4, q5, q6, q7, q8⟩ := hW2 (T'.setVm vm') rfl X2
    refine ⟨t, hstep _ (fun acts => (hsteps acts).trans (catchC_steps (c := c) X'.here hfind hs')), oc, ad', locs', q1, q2, q3, Nat.le_trans hlen q4, fun i hi => ?_, q6, q7, ?_⟩
    · rw [q5 i (by omega)]
      exact hadi i (by omega)
    · exact q8.mono (by omega) (by omega)
end CC
