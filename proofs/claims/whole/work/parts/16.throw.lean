/-! what is thrown: 'throw new X()' with no handler around it, in a JVM without stack traces -/
def mn_hw : List Cond := [.isRef (.static Bundle.tN "UNASSIGNED_STACK" Bundle.steD), .isRef (.static Bundle.tN "SUPPRESSED_SENTINEL" Bundle.listD), .laysStatic Bundle.tN "UNASSIGNED_STACK" Bundle.steD, .laysStatic Bundle.tN "SUPPRESSED_SENTINEL" Bundle.listD]
theorem mn_hw_of {G : mn_G} {e : Env} {s : State} (h : mn_T G e s) (A : Array Value) : ∀ a ∈ mn_hw, a.before A s = true := by
  intro a ha
  simp only [mn_hw, List.mem_cons, List.not_mem_nil, or_false] at ha
  rcases ha with rfl | rfl | rfl | rfl
  · exact mn_sf_ref h.2.1 A
  · exact mn_sf_ref h.2.2.1 A
  · exact mn_sf_lays h.2.1 A
  · exact mn_sf_lays h.2.2.1 A
section TH
variable {p : Program} {l : Launch} {e : Env} {R : Room} {s : State} {m₀ : MethodId} {args : Array Value} {below : List Frame} {meth : Method} {c : Code} {V : State} {locs : List Loc} {cells slots : Nat}
set_option maxHeartbeats 2000000 in
/-- from the constructor's call to the throw: which cell, and that no other cell has changed -/
theorem mn_throw (X : Stand p l e R s m₀ args below meth c V locs cells slots) (hexec : p.tables.exec = Jvm.exec) (htr : e.platform.stackTraces = false) {base : Nat} (hu : mn_sf base "UNASSIGNED_STACK" Bundle.steD s) (hV : ∀ q, q < base → V.heap[q]? = s.heap[q]?) (hbs : base ≤ s.heap.size) {own cls : String} {names : List String} {ic : Nat}
    (hown : s.vm.findClass own = some m₀.cls) (hcls : Bundle.fit cls = true) (hnames : ∀ n ∈ names, Bundle.fit n = true) (h : ∀ a ∈ Bundle.ownAtoms0 own ic cls names, a.before args s = true)
    {a : Addr} {cX : ClassId} {kX : Class} (hfoundX : s.vm.findClass cls = some cX) (hkX : s.vm.classes[cX]? = some kX) (hcell : V.heap[a]? = some (freshCell cX kX)) (hnew : s.heap.size ≤ a)
    {g : JFrame} (hg : g.method = m₀) (hsize : g.locals.size = c.maxLocals) (hlocked : g.locked = none) (hentered : g.entered = []) {rest : List Value} (hstack : g.stack = .ref a :: .ref a :: rest)
    (hd6 : decode c.code g.pc = .ok (.invokespecial ic, 3)) (hd9 : decode c.code (g.pc + 3) = .ok (.athrow, 1)) (hout : ∀ x ∈ c.exceptionTable.toList, covers x (g.pc + 3) = false)
    (hRframes : names.length + 3 < R.frames) (hRlocals : 2 * g.monitorRoom + ((Value.ref a :: rest).map fun v => v.category).sum + (13 * (names.length + 1) + 41) ≤ R.locals) (hlocks : meth.locks = false) :
    ∃ U : State, Steps p.tables e below (V.setTop g) U ∧ U.status = .running ∧ Ended U below (.threw a) ∧ s.WarmedH U.vm ∧ s.sameButNew ({ U with vm := s.vm } : State) locs cells slots ∧ (∀ q, q ≠ a → U.heap[q]? = V.heap[q]?) ∧ U.heap.size = V.heap.size ∧
      ∃ ce : Cell, U.heap[a]? = some ce ∧ ce.cls = cX ∧ ce.vm.isStatics = false := by
  have howns : e.platform.frameOwnsMonitors = true := by rw [X.admits.platform]
  have hfin : e.platform.finalization = false := by rw [X.admits.platform]
  have hpl : e.platform.magicAccessors = ({} : Platform).magicAccessors := by rw [X.admits.platform]
  have a' : ∀ x, x ∈ Bundle.ownAtoms0 own ic cls names → x.holds args s none s [] = true := fun x hx => h x hx
  obtain ⟨T, Z, L, LZ, Y⟩ := ThrowableC.of_atoms (args := args) howns hfin hpl (fun x hx => h x (by simp [Bundle.ownAtoms0, hx]))
  obtain ⟨P1, Ps, hlen, L1, hL, hP1m, hlink1, hlink⟩ := Bundle.chain0 (args := args) hpl Y.init0 names cls hcls hnames (fun x hx => h x (by simp [Bundle.ownAtoms0, hx]))
  have hfound : s.vm.findClass cls = some P1.m.cls := findClass_of_methodNamed hP1m
  cases Option.some.inj (hfoundX.symm.trans hfound)
  obtain ⟨c1, kX', hc1, hk, hord, -, -, hn6⟩ := Cond.instantiable_spec (a' (.instantiable cls 6) (by simp [Bundle.ownAtoms0]))
  cases Option.some.inj (hc1.symm.trans hfound)
  cases Option.some.inj (hkX.symm.trans hk)
  have hsel : ∀ y : MethodName, ∀ mk : MethodId, s.methodNamed? y = some mk → (y.cls ≠ "java/lang/invoke/MethodHandle" ∧ y.cls ≠ "java/lang/invoke/VarHandle") → (Cond.selects cls y y).holds args s none s [] = true → selectMethod e.platform s.vm P1.m.cls mk = .method mk := by
    intro y mk hy hy2 hs
    obtain ⟨c2, r2, m2, q1, q2, q3, q4, -⟩ := Cond.selects_spec hs
    cases Option.some.inj (q1.symm.trans hfound)
    cases Option.some.inj (q2.symm.trans (State.methodFound?_of_named hy hy2))
    cases Option.some.inj (q3.symm.trans hy)
    rw [Launch.admits_selectMethod X.admits]; exact q4
  have hsel0 := hsel Bundle.tFill0 T.fill0 Y.fill0 (by decide) (a' (.selects cls Bundle.tFill0 Bundle.tFill0) (by simp [Bundle.ownAtoms0]))
  have hselF := hsel Bundle.tFill T.fill Y.fill (by decide) (a' (.selects cls Bundle.tFill Bundle.tFill) (by simp [Bundle.ownAtoms0]))
  obtain ⟨cellS0, hcS0, hiss⟩ := Y.statics
  obtain ⟨u0, hu0⟩ := Cond.staticRefV Y.unassigned L.unassignedStatic L.statics hcS0 hiss (a' (.isRef (.static Bundle.tN "UNASSIGNED_STACK" Bundle.steD)) (by simp [Bundle.ownAtoms0]))
  obtain ⟨sen, hsen⟩ := Cond.staticRefV Y.sentinel L.sentinelStatic L.statics hcS0 hiss (a' (.isRef (.static Bundle.tN "SUPPRESSED_SENTINEL" Bundle.listD)) (by simp [Bundle.ownAtoms0]))
  obtain ⟨ci198, i198, fB, hk198, hg198, ha198, hsB, -, hnB, htB, hffB⟩ := Cond.ownField (t := .object "java/lang/Object") Y.found L.cls (by decide +kernel) (a' (.fieldLink Bundle.tN 198 Bundle.tN "backtrace" "Ljava/lang/Object;") (by simp [Bundle.ownAtoms0])) (a' (.lays Bundle.tN Bundle.tN "backtrace" "Ljava/lang/Object;") (by simp [Bundle.ownAtoms0])) e.platform hpl
  have hbase : T.aS < base := by
    obtain ⟨c5, k5, i5, f5, a5, cell5, u5, g1, g2, g3, -⟩ := hu
    have g4 := g1.symm.trans Y.unassigned
    have g5 : k5 = T.kT := by injection g4 with g4; injection g4 with _ g4; injection g4 with g4 _
    rw [g5] at g2
    rw [Option.some.inj (L.statics.symm.trans g2)]
    exact g3
  have hcellS : V.heap[T.aS]? = some cellS0 := by rw [hV _ hbase]; exact hcS0
  have hknownS : cellS0.vm ≠ .unknown := by
    intro hun
    rw [hun] at hiss
    cases hiss
  have hneS : T.aS ≠ a := Nat.ne_of_lt (Nat.lt_of_lt_of_le hbase (Nat.le_trans hbs hnew))
  obtain ⟨tyC, dC, hdC, hdnC⟩ := Cond.laysAt hfound hk Y.cause (a' (.lays cls Bundle.tN "cause" "Ljava/lang/Throwable;") (by simp [Bundle.ownAtoms0]))
  obtain ⟨tyS, dS, hdS, hdnS⟩ := Cond.laysAt hfound hk Y.stack (a' (.lays cls Bundle.tN "stackTrace" Bundle.steD) (by simp [Bundle.ownAtoms0]))
  obtain ⟨tyP, dP, hdP, hdnP⟩ := Cond.laysAt hfound hk Y.supp (a' (.lays cls Bundle.tN "suppressedExceptions" Bundle.listD) (by simp [Bundle.ownAtoms0]))
  obtain ⟨tyB, dB, hdB, hdnB⟩ := Cond.laysAt hfound hk hffB (a' (.lays cls Bundle.tN "backtrace" "Ljava/lang/Object;") (by simp [Bundle.ownAtoms0]))
  have bC := Cond.laysApart hdB hdC hdnB hdnC (by rw [hnB, Y.causeName]; decide)
  have bS := Cond.laysApart hdB hdS hdnB hdnS (by rw [hnB, Y.stackName]; decide)
  have bP := Cond.laysApart hdB hdP hdnB hdnP (by rw [hnB, Y.suppName]; decide)
  have hskip : SkipFacts T e.platform s (fun u => u) u0 ((preparedCellV T.toThrowableT (freshCell P1.m.cls kX) a u0 sen).withEntry V.cur) :=
    ⟨{ ci198 := ci198, i198 := i198, fBack := fB }, ⟨hk198, hg198, ha198, hsB⟩, by
      have := fresh_default (c := P1.m.cls) tyB
      rw [htB] at this
      simpa [preparedCellV, Cell.setSlot, Cell.withEntry, Array.getElem?_setIfInBounds, bC, bS, bP, bC.symm, bS.symm, bP.symm, defaultValue] using this, fun _ _ => rfl⟩
  obtain ⟨tm, methC, cdC, kC, vm₁, hnC, -, -, -, -, -, -, -, hW₁, st1⟩ := Steps.initCold (tb := p.tables) (e := e) (below := below) (s := s) (U := V) X.here hexec X.warmed hpl hown (t := Bundle.init0 cls) rfl rfl (Bundle.fit_spec hcls).2
    (a' (.methodLink own ic (Bundle.init0 cls)) (by simp [Bundle.ownAtoms0])) (h (.instanceMethod (Bundle.init0 cls)) (by cases names <;> simp [Bundle.ownAtoms0, Bundle.chain0Atoms, Bundle.passAtoms])) (bytes := Bundle.five) (maxL := 1) (h (.code (Bundle.init0 cls) Bundle.five 1 none) (by cases names <;> simp [Bundle.ownAtoms0, Bundle.chain0Atoms, Bundle.passAtoms]))
    (f := g) hg (a := a) (rest := .ref a :: rest) hstack hd6
  cases Option.some.inj (hnC.symm.trans hP1m)
  have X₁ := X.noted hW₁
  obtain ⟨vm₂, X₂, st2⟩ := X₁.ctorPlainOffV hexec (g := { g with stack := .ref a :: rest }) hg hsize T L Z LZ (P1 :: Ps)
    (fun P hP => by rcases List.mem_cons.mp hP with rfl | hP; exact L1; exact hL P hP) ⟨hlink1, hlink⟩ (u0 := u0) (sen := sen) (self := a) (cell := freshCell P1.m.cls kX) (cellS := cellS0)
    hcell (fun _ => by simp) (by simp) rfl rfl hsel0 hselF hcellS hneS hknownS hu0 hsen
    (Takes.of_laid hk hord tyC (by rw [Y.causeType]; rfl)) (Takes.of_laid hk hord tyS (by rw [Y.stackType]; exact fits_refV_array _ u0)) (Takes.of_laid hk hord tyP (by rw [Y.suppType]; exact fits_refV_object _ sen)) Y.objLocals hskip htr [] hd6
    (by simp only [List.length_cons, hlen]; omega) (by simp only [List.length_cons, hlen]; exact hRlocals)
  obtain ⟨hwalk, hrun, hended, hWU, hsame⟩ := X₂.athrowLeaves hexec (g := { g with stack := .ref a :: rest, pc := g.pc + 3 }) hg hlocked hentered hout (a := a) (rest := rest) rfl hd9
  have hlt : a < V.heap.size := (Array.getElem?_eq_some_iff.mp hcell).1
  refine ⟨_, st1 _ (fun acts => ?_), hrun, hended, hWU, hsame.weaken (fun y hy hlt' => ?_) (Nat.le_refl _) (Nat.le_refl _), fun q hq => ?_, ?_, _, heapAt_setCell_self (s := (V.setVm vm₁).setVm vm₂) ((preparedCellV T.toThrowableT (freshCell P1.m.cls kX) a u0 sen).setSlot T.fStack.slot u0.v) hlt, ?_, ?_⟩
  · rw [doInvoke_state]
    exact st2 _ hwalk
  · rcases List.mem_append.mp hy with hy | hy
    · exact hy
    · exfalso
      simp only [List.mem_cons, List.not_mem_nil, or_false] at hy
      rcases hy with rfl | rfl | rfl | rfl <;> exact absurd hlt' (Nat.not_lt.mpr hnew)
  · show (V.heap.setIfInBounds a _)[q]? = V.heap[q]?
    rw [Array.getElem?_setIfInBounds_ne (fun z => hq z.symm)]
  · show (V.heap.setIfInBounds a _).size = V.heap.size
    simp
  · rfl
  · rfl
end TH
section EVT
variable {sc : Nat × (Nat → Int32)} {d w k n : Nat} {M : mn_M} {pc : Nat} {lo : List (Nat × Value)} {st : List Value} {h : List mn_E} {r : mn_R}
set_option maxHeartbeats 2000000 in
theorem ev_throw {x ic index : Nat} {names : List String} (hdn : decode M.2.1 pc = .ok (.new index, 3)) (hdd : decode M.2.1 (pc + 3) = .ok (.dup, 1)) (hdi : decode M.2.1 (pc + 4) = .ok (.invokespecial ic, 3)) (hda : decode M.2.1 (pc + 7) = .ok (.athrow, 1))
    (w1 : Cond.classLink M.1.cls index (gd_ex x) ∈ gd_tb) (w2 : Cond.instantiable (gd_ex x) 6 ∈ gd_tb) (w3 : Cond.initialized (gd_ex x) ∈ gd_tb) (hws : ∀ a ∈ Bundle.ownAtoms0 M.1.cls ic (gd_ex x) names, a ∈ gd_tb ∨ a ∈ mn_hw) (hcls : Bundle.fit (gd_ex x) = true) (hnames : ∀ n ∈ names, Bundle.fit n = true) (hhd : M.2.2.2.2 = []) (hd1 : names.length + 4 ≤ d) (hw1 : 1 + (st.map fun v => v.category).sum + (13 * (names.length + 1) + 41) ≤ w) :
    Ev sc d w 0 0 M pc lo st h (some (.inr x, h)) := by
  intro o h' hr G hG p l e R s m args below meth c H locs cells slots ls ad hC hR hI hl
  cases hr
  have hts := hC.2.2.2.2.2.1
  have hT := hC.2.2.2.2.2.2.2.2.2.2.2.2
  have hbs : G.2.2.1 ≤ s.heap.size := hC.2.2.2.2.2.2.2.2.1
  refine W.newc hC.1 hC.2.1 hC.2.2.2.2.1 (hts _ w1) (hts _ w2) (hts _ w3) (g := F0 m pc ls (st.map (mn_v ad))) rfl hdn (by have := hR.2.2.1; omega) (by have := hR.2.2.2; omega) (fun cC kC hfC hkC hord hn6 => ?_)
  refine lv_dup hC.1 hC.2.1 hdd rfl ?_
  intro V hV X
  have hx0 : c.exceptionTable.toList.map (fun x => (x.startPc, x.endPc, x.handlerPc, x.catchType)) = [] := by rw [hC.2.2.2.2.2.2.2.2.2.1]; exact hhd
  have hcells : ∀ q, q < H.size → V.heap[q]? = H[q]? := fun q hq => by rw [hV]; exact Array.getElem?_push_lt .. |>.trans (Array.getElem?_eq_getElem hq).symm
  have hsz : s.heap.size ≤ H.size := hI.2.2.1.1
  obtain ⟨U, hst, hrun, hend, hWU, hsame, hoth, hsize, ce, hce, hcc, hcv⟩ := mn_throw X hC.1 hT.1 (base := G.2.2.1) hT.2.1 (fun q hq => by rw [hcells q (by omega)]; exact hI.2.2.1.2.1 q (by omega) (by omega)) hbs (own := M.1.cls) (cls := gd_ex x) (names := names) (ic := ic) hC.2.2.2.2.1 hcls hnames
    (fun a ha => by
      rcases hws a ha with ha | ha
      · exact hts a ha
      · exact mn_hw_of hT args a ha)
    (a := H.size) hfC hkC (by rw [hV]; exact Array.getElem?_push_size) hsz
    (g := F0 m (pc + 3 + 1) ls (.ref H.size :: .ref H.size :: st.map (mn_v ad))) rfl (by rw [hC.2.2.1]; exact hl.1) rfl rfl (rest := st.map (mn_v ad)) rfl (by rw [hC.2.1]; exact hdi) (by rw [hC.2.1]; exact hda) (fun y hy => by rw [List.map_eq_nil_iff.mp hx0] at hy; cases hy)
    (by have := hR.1; omega) (by
      show 2 * 0 + ((Value.ref H.size :: st.map (mn_v ad)).map fun v => v.category).sum + _ ≤ R.locals
      rw [List.map_cons, List.sum_cons, mn_v_cats]
      have := hR.2.1
      show 2 * 0 + (1 + _) + _ ≤ R.locals
      omega) hC.2.2.2.2.2.2.1
  have hold : ∀ q, q < H.size → U.heap[q]? = H[q]? := fun q hq => by rw [hoth q (Nat.ne_of_lt hq), hcells q hq]
  have hS2 : va_S (fun q => G.2.2.1 ≤ q) s.heap U.heap locs := ⟨by rw [hsize, hV, Array.size_push]; omega, fun q hq hA => by rw [hold q (by omega)]; exact hI.2.2.1.2.1 q hq hA, hI.2.2.1.2.2⟩
  refine ⟨U, hst, .threw H.size, ad, locs, hrun, hend, ⟨H.size, ce, rfl, hce, hcv, by rw [hcc]; exact hfC⟩, Nat.le_refl _, fun _ _ => rfl, ?_, hWU, hsame⟩
  exact ⟨hI.1.kept (fun k q hk => hold q.1 ((hI.1 k q hk).lt)), hI.2.1, hS2, hI.2.2.2.1.kept (hold _ (by have := mn_scr_A hC; omega)), hI.2.2.2.2⟩
end EVT
