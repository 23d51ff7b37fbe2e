/-! the invoking instructions, and the rows of a call -/
def mn_inv (M Mc : mn_M) (pc : Nat) (stk av rest : List Value) (h : List mn_E) : Prop :=
  ∀ (G : mn_G) (p : Program) (l : Launch) (e : Env) (R : Room) (s : State) (m : MethodId) (args : Array Value) (below : List Frame) (meth : Method) (c : Code) (T : State) (locs : List Loc) (cells slots : Nat) (ls : Array Slot) (ad : Nat → Nat),
    mn_C G M p e s m args meth c → Stand p l e R s m args below meth c T locs cells slots → mn_I G ad h s T.heap locs →
    ∃ (mk : MethodId) (methk : Method) (ck : Code) (vm₁ : Vm), mn_D Mc s mk methk ck ∧ Stand p l e R s m args below meth c (T.setVm vm₁) locs cells slots ∧
      ∀ target, (∀ acts, Steps p.tables e below (doInvoke e ((T.setVm vm₁).setTop (F0 m pc ls (rest.map (mn_v ad)))) acts mk (av.map (mn_v ad)).toArray).1 target) → Steps p.tables e below (T.setTop (F0 m pc ls (stk.map (mn_v ad)))) target
theorem mn_par {y : MethodName} {n : Nat} {sig : MethodDescriptor} (h : (parseMethodDescriptor y.desc).map (fun d => d.parameters.length) = some n) (hs : parseMethodDescriptor y.desc = some sig) : n = sig.parameters.length := by
  rw [hs] at h
  exact (Option.some.inj h).symm
abbrev mn_nh (y : MethodName) : Prop := y.cls ≠ "java/lang/invoke/MethodHandle" ∧ y.cls ≠ "java/lang/invoke/VarHandle"
theorem inv_V {M Mc : mn_M} {pc index q ci : Nat} {C : String} {Tf : u_T} {N : Nat} {fs av rest stk : List Value} {h : List mn_E} (hq : h[q]? = some (.inr (ci, fs))) (hcl : gd_cl[ci]? = some (C, Tf, N)) (hd : decode M.2.1 pc = .ok (.invokevirtual index, 3))
    (w1 : Cond.methodLink M.1.cls index Mc.1 ∈ gd_tb) (w2 : Cond.instanceMethod Mc.1 ∈ gd_tb) (w3 : Cond.selects C Mc.1 Mc.1 ∈ gd_tb) (hW : mn_W Mc) (hy : mn_nh Mc.1) (hn : (parseMethodDescriptor Mc.1.desc).map (fun d => d.parameters.length) = some av.length) (hst : stk = av.reverse ++ .ref q :: rest) : mn_inv M Mc pc stk (.ref q :: av) rest h := by
  intro G p l e R s m args below meth c T locs cells slots ls ad hC X hI
  have hts := hC.2.2.2.2.2.1
  obtain ⟨mk, methk, ck, hD⟩ := mn_D_of hW hts
  obtain ⟨mk2, methM, hnamed, hmethM, hstM, habM⟩ := Cond.instanceMethod_spec (hts _ w2)
  cases hnamed.symm.trans hD.1
  cases hmethM.symm.trans hD.2.1
  obtain ⟨cellB, hcell, hobj, hcls⟩ := va_recv hC.2.2.2.2.2.2.2.1 hI.1 hcl (mn_w_at (dA := G.2.1) (ad := ad) hq)
  obtain ⟨c2, r2, m2, q1, q2, q3, q4, kP, hkP, hkPi⟩ := Cond.selects_spec (hts _ w3)
  cases hcls.symm.trans q1
  cases (State.methodFound?_of_named hnamed hy).symm.trans q2
  cases hnamed.symm.trans q3
  have hselP : selectMethod e.platform s.vm cellB.cls mk = .method mk := by rw [Launch.admits_selectMethod X.admits]; exact q4
  obtain ⟨vm₁, X₁, hstep₁⟩ := X.invokevirtual hC.1 hC.2.2.2.2.1 (hts _ w1) hnamed hmethM hstM hkP hkPi hy (a := ad q) (cell := cellB) hcell
    (fun z h => by rw [h] at hobj; cases hobj) hselP hmethM habM hkP hkPi (g := F0 m pc ls (stk.map (mn_v ad))) rfl (argsL := av.map (mn_v ad)) (rest := rest.map (mn_v ad)) (by rw [List.length_map]; exact mn_par hn hD.2.2.2.2.2.2.2.2) (by rw [hst, List.map_append, List.map_reverse]; rfl) (by rw [hC.2.1]; exact hd)
  exact ⟨mk, methk, ck, vm₁, hD, X₁, hstep₁⟩
theorem inv_VN {M Mc : mn_M} {pc index q ci : Nat} {C host : String} {Tf : u_T} {N : Nat} {fs av rest stk : List Value} {h : List mn_E} (hq : h[q]? = some (.inr (ci, fs))) (hcl : gd_cl[ci]? = some (C, Tf, N)) (hd : decode M.2.1 pc = .ok (.invokevirtual index, 3))
    (w1 : Cond.methodLinkNest M.1.cls index Mc.1 host ∈ gd_tb) (w2 : Cond.instanceMethod Mc.1 ∈ gd_tb) (w3 : Cond.selects C Mc.1 Mc.1 ∈ gd_tb) (hW : mn_W Mc) (hy : mn_nh Mc.1) (hn : (parseMethodDescriptor Mc.1.desc).map (fun d => d.parameters.length) = some av.length) (hst : stk = av.reverse ++ .ref q :: rest) : mn_inv M Mc pc stk (.ref q :: av) rest h := by
  intro G p l e R s m args below meth c T locs cells slots ls ad hC X hI
  have hts := hC.2.2.2.2.2.1
  obtain ⟨mk, methk, ck, hD⟩ := mn_D_of hW hts
  obtain ⟨mk2, methM, hnamed, hmethM, hstM, habM⟩ := Cond.instanceMethod_spec (hts _ w2)
  cases hnamed.symm.trans hD.1
  cases hmethM.symm.trans hD.2.1
  obtain ⟨cellB, hcell, hobj, hcls⟩ := va_recv hC.2.2.2.2.2.2.2.1 hI.1 hcl (mn_w_at (dA := G.2.1) (ad := ad) hq)
  obtain ⟨c2, r2, m2, q1, q2, q3, q4, kP, hkP, hkPi⟩ := Cond.selects_spec (hts _ w3)
  cases hcls.symm.trans q1
  cases (State.methodFound?_of_named hnamed hy).symm.trans q2
  cases hnamed.symm.trans q3
  have hselP : selectMethod e.platform s.vm cellB.cls mk = .method mk := by rw [Launch.admits_selectMethod X.admits]; exact q4
  obtain ⟨vm₁, X₁, hstep₁⟩ := X.invokevirtualNest hC.1 hC.2.2.2.2.1 (hts _ w1) hnamed hmethM hstM hkP hkPi hy (a := ad q) (cell := cellB) hcell
    (fun z h => by rw [h] at hobj; cases hobj) hselP hmethM habM hkP hkPi (g := F0 m pc ls (stk.map (mn_v ad))) rfl (argsL := av.map (mn_v ad)) (rest := rest.map (mn_v ad)) (by rw [List.length_map]; exact mn_par hn hD.2.2.2.2.2.2.2.2) (by rw [hst, List.map_append, List.map_reverse]; rfl) (by rw [hC.2.1]; exact hd)
  exact ⟨mk, methk, ck, vm₁, hD, X₁, hstep₁⟩
theorem inv_S {M Mc : mn_M} {pc index : Nat} {av rest stk : List Value} {h : List mn_E} (hd : decode M.2.1 pc = .ok (.invokestatic index, 3))
    (w1 : Cond.methodLink M.1.cls index Mc.1 ∈ gd_tb) (w2 : Cond.static Mc.1 ∈ gd_tb) (w3 : Cond.initialized Mc.1.cls ∈ gd_tb) (hW : mn_W Mc) (hy : mn_nh Mc.1) (hn : (parseMethodDescriptor Mc.1.desc).map (fun d => d.parameters.length) = some av.length) (hst : stk = av.reverse ++ rest) : mn_inv M Mc pc stk av rest h := by
  intro G p l e R s m args below meth c T locs cells slots ls ad hC X hI
  have hts := hC.2.2.2.2.2.1
  obtain ⟨mk, methk, ck, hD⟩ := mn_D_of hW hts
  have hstatic : methk.isStatic = true := Cond.static_spec hD.1 hD.2.1 (hts _ w2)
  obtain ⟨kP, hkP, -⟩ := className_of_methodNamed hD.1
  have hinitP : kP.init = .initialized := Cond.initialized_spec (findClass_of_methodNamed hD.1) hkP (hts _ w3)
  obtain ⟨vm₁, X₁, hstep₁⟩ := X.invokestatic hC.1 hC.2.2.2.2.1 (hts _ w1) hD.1 hD.2.1 hstatic hkP hinitP hy (g := F0 m pc ls (stk.map (mn_v ad))) rfl (argsL := av.map (mn_v ad)) (rest := rest.map (mn_v ad)) (by rw [List.length_map]; exact mn_par hn hD.2.2.2.2.2.2.2.2) (by rw [hst, List.map_append, List.map_reverse]) (by rw [hC.2.1]; exact hd)
  exact ⟨mk, methk, ck, vm₁, hD, X₁, hstep₁⟩
theorem inv_SN {M Mc : mn_M} {pc index : Nat} {host : String} {av rest stk : List Value} {h : List mn_E} (hd : decode M.2.1 pc = .ok (.invokestatic index, 3))
    (w1 : Cond.methodLinkNest M.1.cls index Mc.1 host ∈ gd_tb) (w2 : Cond.static Mc.1 ∈ gd_tb) (w3 : Cond.initialized Mc.1.cls ∈ gd_tb) (hW : mn_W Mc) (hy : mn_nh Mc.1) (hn : (parseMethodDescriptor Mc.1.desc).map (fun d => d.parameters.length) = some av.length) (hst : stk = av.reverse ++ rest) : mn_inv M Mc pc stk av rest h := by
  intro G p l e R s m args below meth c T locs cells slots ls ad hC X hI
  have hts := hC.2.2.2.2.2.1
  obtain ⟨mk, methk, ck, hD⟩ := mn_D_of hW hts
  have hstatic : methk.isStatic = true := Cond.static_spec hD.1 hD.2.1 (hts _ w2)
  obtain ⟨kP, hkP, -⟩ := className_of_methodNamed hD.1
  have hinitP : kP.init = .initialized := Cond.initialized_spec (findClass_of_methodNamed hD.1) hkP (hts _ w3)
  obtain ⟨vm₁, X₁, hstep₁⟩ := X.invokestaticNest hC.1 hC.2.2.2.2.1 (hts _ w1) hD.1 hD.2.1 hstatic hkP hinitP hy (g := F0 m pc ls (stk.map (mn_v ad))) rfl (argsL := av.map (mn_v ad)) (rest := rest.map (mn_v ad)) (by rw [List.length_map]; exact mn_par hn hD.2.2.2.2.2.2.2.2) (by rw [hst, List.map_append, List.map_reverse]) (by rw [hC.2.1]; exact hd)
  exact ⟨mk, methk, ck, vm₁, hD, X₁, hstep₁⟩
theorem inv_I {M Mc : mn_M} {pc index q : Nat} {av rest stk : List Value} {h : List mn_E} (hd : decode M.2.1 pc = .ok (.invokespecial index, 3)) (hname : Mc.1.name = "<init>") (hret : Mc.2.2.2.1 = none) (hhd : Mc.2.2.2.2 = [])
    (w1 : Cond.methodLink M.1.cls index Mc.1 ∈ gd_tb) (w2 : Cond.instanceMethod Mc.1 ∈ gd_tb) (hW : Cond.code Mc.1 Mc.2.1 Mc.2.2.1 none ∈ gd_tb) (hy : mn_nh Mc.1) (hn : (parseMethodDescriptor Mc.1.desc).map (fun d => d.parameters.length) = some av.length) (hst : stk = av.reverse ++ .ref q :: rest) : mn_inv M Mc pc stk (.ref q :: av) rest h := by
  intro G p l e R s m args below meth c T locs cells slots ls ad hC X hI
  have hts := hC.2.2.2.2.2.1
  obtain ⟨mk, methk, ck, hD⟩ := mn_D_of (M := Mc) (Or.inl ⟨by rw [hret]; exact hW, hhd⟩) hts
  have hpl : e.platform.magicAccessors = ({} : Platform).magicAccessors := by rw [X.admits.platform]
  obtain ⟨mk2, methM, cM, kP, vm₁, hnamed, hmethM, hcodeM, -, hlocalsM, -, hkP, -, hW₁, hstep₁⟩ := Steps.initColdArgs (e := e) X.here hC.1 X.warmed hpl hC.2.2.2.2.1 hname hy (hts _ w1) (hts _ w2) (hts _ hW) (f := F0 m pc ls (stk.map (mn_v ad))) rfl (a := ad q) (argsL := av.map (mn_v ad)) (rest := rest.map (mn_v ad)) (fun sig hs => by rw [List.length_map]; exact mn_par hn hs) (by rw [hst, List.map_append, List.map_reverse]; rfl) (by rw [hC.2.1]; exact hd)
  cases hnamed.symm.trans hD.1
  exact ⟨mk, methk, ck, vm₁, hD, X.noted hW₁, hstep₁⟩
theorem inv_IN {M Mc : mn_M} {pc index q : Nat} {host : String} {av rest stk : List Value} {h : List mn_E} (hd : decode M.2.1 pc = .ok (.invokespecial index, 3)) (hname : Mc.1.name = "<init>") (hret : Mc.2.2.2.1 = none) (hhd : Mc.2.2.2.2 = [])
    (w1 : Cond.methodLinkNest M.1.cls index Mc.1 host ∈ gd_tb) (w2 : Cond.instanceMethod Mc.1 ∈ gd_tb) (hW : Cond.code Mc.1 Mc.2.1 Mc.2.2.1 none ∈ gd_tb) (hy : mn_nh Mc.1) (hn : (parseMethodDescriptor Mc.1.desc).map (fun d => d.parameters.length) = some av.length) (hst : stk = av.reverse ++ .ref q :: rest) : mn_inv M Mc pc stk (.ref q :: av) rest h := by
  intro G p l e R s m args below meth c T locs cells slots ls ad hC X hI
  have hts := hC.2.2.2.2.2.1
  obtain ⟨mk, methk, ck, hD⟩ := mn_D_of (M := Mc) (Or.inl ⟨by rw [hret]; exact hW, hhd⟩) hts
  have hpl : e.platform.magicAccessors = ({} : Platform).magicAccessors := by rw [X.admits.platform]
  obtain ⟨mk2, methM, cM, kP, vm₁, hnamed, hmethM, hcodeM, -, hlocalsM, -, hkP, -, hW₁, hstep₁⟩ := Steps.initColdArgsNest (e := e) X.here hC.1 X.warmed hpl hC.2.2.2.2.1 hname hy (hts _ w1) (hts _ w2) (hts _ hW) (f := F0 m pc ls (stk.map (mn_v ad))) rfl (a := ad q) (argsL := av.map (mn_v ad)) (rest := rest.map (mn_v ad)) (fun sig hs => by rw [List.length_map]; exact mn_par hn hs) (by rw [hst, List.map_append, List.map_reverse]; rfl) (by rw [hC.2.1]; exact hd)
  cases hnamed.symm.trans hD.1
  exact ⟨mk, methk, ck, vm₁, hD, X.noted hW₁, hstep₁⟩
section CR
variable {sc : Nat × (Nat → Int32)} {d w k n : Nat} {M : mn_M} {pc : Nat} {lo : List (Nat × Value)} {st : List Value} {h : List mn_E} {r : mn_R}
/-- values of the caller keep their meaning -/
def mn_keep (h h1 : List mn_E) (lo : List (Nat × Value)) (rest : List Value) : Prop := h1.length = h.length ∨ (lo.all (fun q => mn_vin h.length h1.length q.2) = true ∧ rest.all (mn_vin h.length h1.length) = true)
theorem mn_keep_of {h h1 : List mn_E} {lo : List (Nat × Value)} {rest : List Value} {ad ad1 : Nat → Nat} (hk : mn_keep h h1 lo rest) (ha : ∀ i, i < h.length ∨ h1.length ≤ i → ad1 i = ad i) : mn_lo ad1 lo = mn_lo ad lo ∧ rest.map (mn_v ad1) = rest.map (mn_v ad) := by
  rcases hk with hk | ⟨hk1, hk2⟩
  · have : ad1 = ad := funext fun i => ha i (by omega)
    rw [this]
    exact ⟨rfl, rfl⟩
  · exact ⟨mn_lo_in ha hk1, mn_map_in ha hk2⟩
set_option maxHeartbeats 1000000 in
/-- a call whose callee ends with o1 and h1; what it throws goes on up -/
theorem ev_call {Mc : mn_M} {d1 w1 k1 n1 k2 n2 : Nat} {stk av rest : List Value} {h1 : List mn_E} {o1 : mn_O} {ig : Instr} (hi : mn_inv M Mc pc stk av rest h) (hdg : decode M.2.1 pc = .ok (ig, 3)) (hpl : plainFor Mc.1 = true) (hav : mn_ws av ≤ Mc.2.2.1) (hd1 : d1 + 1 ≤ d) (hw1 : (rest.map fun v => v.category).sum + (Mc.2.2.1 + 11) + w1 ≤ w) (hk : k1 + k2 = k) (hn : n1 + n2 = n)
    (hc : Ev sc d1 w1 k1 n1 Mc 0 (lv_args 0 av) [] h (some (o1, h1))) (hkeep : mn_keep h h1 lo rest) (kr : ∀ v, o1 = .inl v → Ev sc d w k2 n2 M (pc + 3) lo (v.toList ++ rest) h1 r) (kx : ∀ x, o1 = .inr x → M.2.2.2.2 = [] ∧ r = some (.inr x, h1)) : Ev sc d w k n M pc lo stk h r := by
  intro o h' hr G hG p l e R s m args below meth c H locs cells slots ls ad hC hR hI hl
  intro T hT X
  subst hT
  obtain ⟨mk, methk, ck, vm₁, hD, X₁, hstep⟩ := hi G p l e R s m args below meth c T locs cells slots ls ad hC X hI
  have hls : ls.size = M.2.2.1 := hl.1
  obtain ⟨ad1, L, T', X', hlen, hadi, hI', hcase⟩ := mn_call (M := M) (Mc := Mc) (ls := ls) (pc := pc) (rest := rest) hG hC X₁ hI hls hdg hD hpl hav hc (Nat.le_trans hd1 hR.1) (Nat.le_trans hw1 hR.2.1) (by have := hR.2.2.1; omega) (by have := hR.2.2.2; omega)
  obtain ⟨hk1, hk2⟩ := mn_keep_of hkeep hadi
  rcases hcase with ⟨v, rfl, hsteps⟩ | ⟨x, xa, ce, rfl, hce, hcv, hcf, hsteps⟩
  · have hgo := kr v rfl o h' hr G hG p l e R s m args below meth c T'.heap (locs ++ L) (cells + k1) (slots + n1) ls ad1 hC ⟨hR.1, hR.2.1, by have := hR.2.2.1; omega, by have := hR.2.2.2; omega⟩ hI' (by rw [hk1]; exact hl)
    obtain ⟨t, hs, oc, ad', locs', q1, q2, q3, q4, q5, q6, q7, q8⟩ := hgo T' rfl X'
    refine ⟨t, hstep _ (fun acts => (hsteps acts).trans ?_), oc, ad', locs', q1, q2, q3, Nat.le_trans hlen q4, fun i hi => ?_, q6, q7, ?_⟩
    · rw [List.map_append, hk2] at hs
      have h8 : (v.toList.map (mn_v ad1)) = (v.map (mn_v ad1)).toList := by cases v <;> rfl
      rw [h8] at hs
      exact hs
    · rw [q5 i (by omega)]
      exact hadi i (by omega)
    · exact q8.mono (by omega) (by omega)
  · obtain ⟨hhd, hre⟩ := kx x rfl
    rw [hre] at hr
    cases hr
    have hlocks : meth.locks = false := hC.2.2.2.2.2.2.1
    have hx0 : c.exceptionTable.toList.map (fun x => (x.startPc, x.endPc, x.handlerPc, x.catchType)) = [] := by rw [hC.2.2.2.2.2.2.2.2.2.1]; exact hhd
    have hout : ∀ x ∈ c.exceptionTable.toList, covers x (F0 m pc ls (rest.map (mn_v ad))).pc = false := fun x hx => by
      rw [List.map_eq_nil_iff.mp hx0] at hx
      cases hx
    obtain ⟨hwalk, hrun, hended, hWU, hsame⟩ := X'.leaveThrown xa (g := F0 m pc ls (rest.map (mn_v ad))) rfl rfl rfl hout hlocks
    refine ⟨_, hstep _ (fun acts => (hsteps acts).trans hwalk), .threw xa, ad1, locs ++ L, hrun, hended, ⟨xa, ce, rfl, hce, hcv, hcf⟩, hlen, hadi, hI', hWU, hsame.mono (by show cells + k1 + 1 ≤ cells + k + 1; omega) (by show slots + n1 + 6 * 1 ≤ slots + n + 6 * 1; omega)⟩
/-- a call that comes back -/
theorem ev_callr {Mc : mn_M} {d1 w1 k1 n1 k2 n2 : Nat} {stk av rest : List Value} {h1 : List mn_E} {v : Option Value} {ig : Instr} (hi : mn_inv M Mc pc stk av rest h) (hdg : decode M.2.1 pc = .ok (ig, 3)) (hpl : plainFor Mc.1 = true) (hav : mn_ws av ≤ Mc.2.2.1) (hd1 : d1 + 1 ≤ d) (hw1 : (rest.map fun v => v.category).sum + (Mc.2.2.1 + 11) + w1 ≤ w) (hk : k1 + k2 = k) (hn : n1 + n2 = n)
    (hc : Ev sc d1 w1 k1 n1 Mc 0 (lv_args 0 av) [] h (some (.inl v, h1))) (hkeep : mn_keep h h1 lo rest) (kr : Ev sc d w k2 n2 M (pc + 3) lo (v.toList ++ rest) h1 r) : Ev sc d w k n M pc lo stk h r :=
  ev_call hi hdg hpl hav hd1 hw1 hk hn hc hkeep (fun v' hv => by cases hv; exact kr) (fun x hx => by cases hx)
end CR
