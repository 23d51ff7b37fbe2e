/-! THE JUDGEMENT Ev: from pc of method M, with locals lo, stack st and world h, the method ends with r (its answer or the number of what it throws, and the world behind it); d, w: frames and words that it may need above its own; k, n: cells and slots that it may make. -/
abbrev mn_ty (G : mn_G) : List (ClassId × FieldType) := [(G.2.1 0, .int), (G.2.1 1, .boolean), (G.2.1 2, .long)]
/-- what holds of the machine in a method M from its entry on -/
def mn_C (G : mn_G) (M : mn_M) (p : Program) (e : Env) (s : State) (m : MethodId) (args : Array Value) (meth : Method) (c : Code) : Prop :=
  p.tables.exec = Jvm.exec ∧ c.code = M.2.1 ∧ c.maxLocals = M.2.2.1 ∧ meth.sig.returnType = M.2.2.2.1 ∧ s.vm.findClass M.1.cls = some m.cls ∧ (∀ w ∈ gd_tb, w.before args s = true) ∧ meth.locks = false ∧ va_K G.1 gd_cl (mn_ty G) s ∧ G.2.2.1 ≤ s.heap.size ∧ c.exceptionTable.toList.map (fun x => (x.startPc, x.endPc, x.handlerPc, x.catchType)) = M.2.2.2.2 ∧ meth.name = M.1.name ∧ G.2.2.2.1 < G.2.2.1 ∧ mn_T G e s
/-- the world lies in the heap; the script is there; nothing else that is old has changed -/
def mn_I (G : mn_G) (ad : Nat → Nat) (h : List mn_E) (s : State) (H : Heap) (locs : List Loc) : Prop :=
  va_P G.1 gd_cl (mn_w G.2.1 ad h) H ∧ va_D (fun q => G.2.2.1 ≤ q) (mn_w G.2.1 ad h) ∧ va_S (fun q => G.2.2.1 ≤ q) s.heap H locs ∧ va_X G.2.2.2.1 G.2.2.2.2.1 G.2.2.2.2.2 s H ∧ ad mn_scr = G.2.2.2.1
/-- what is thrown costs one cell of six slots, kept apart from k and n -/
def mn_xk (o : mn_O) : Nat := match o with
  | .inl _ => 0
  | .inr _ => 1
def mn_rm (d w k n : Nat) (R : Room) (cells slots : Nat) : Prop := d ≤ R.frames ∧ w ≤ R.locals ∧ cells + k + 1 ≤ R.cells ∧ slots + n + 6 ≤ R.slots
def mn_oc (ad : Nat → Nat) (o : mn_O) (s t : State) (oc : Outcome) : Prop := match o with
  | .inl v => oc = .returned (v.map (mn_v ad))
  | .inr x => ∃ (a : Addr) (ce : Cell), oc = .threw a ∧ t.heap[a]? = some ce ∧ ce.vm.isStatics = false ∧ s.vm.findClass (gd_ex x) = some ce.cls
def mn_Q (G : mn_G) (s : State) (below : List Frame) (ad : Nat → Nat) (h : List mn_E) (o : mn_O) (h' : List mn_E) (C S : Nat) : State → Prop := fun t =>
  ∃ (oc : Outcome) (ad' : Nat → Nat) (locs' : List Loc), t.status = .running ∧ Ended t below oc ∧ mn_oc ad' o s t oc ∧ h.length ≤ h'.length ∧ (∀ i, i < h.length ∨ h'.length ≤ i → ad' i = ad i) ∧ mn_I G ad' h' s t.heap locs' ∧ s.WarmedH t.vm ∧ s.sameButNew ({ t with vm := s.vm } : State) locs' C S
def Ev (sc : Nat × (Nat → Int32)) (d w k n : Nat) (M : mn_M) (pc : Nat) (lo : List (Nat × Value)) (st : List Value) (h : List mn_E) (r : mn_R) : Prop :=
  ∀ (o : mn_O) (h' : List mn_E), r = some (o, h') → ∀ (G : mn_G), G.2.2.2.2 = sc → ∀ (p : Program) (l : Launch) (e : Env) (R : Room) (s : State) (m : MethodId) (args : Array Value) (below : List Frame) (meth : Method) (c : Code) (H : Heap) (locs : List Loc) (cells slots : Nat) (ls : Array Slot) (ad : Nat → Nat),
    mn_C G M p e s m args meth c → mn_rm d w k n R cells slots → mn_I G ad h s H locs → lv_has ls M.2.2.1 (mn_lo ad lo) →
    W p l e R s m args below meth c H locs cells slots (mn_Q G s below ad h o h' (cells + k + mn_xk o) (slots + n + 6 * mn_xk o)) (F0 m pc ls (st.map (mn_v ad)))
theorem mn_W_mono {p : Program} {l : Launch} {e : Env} {R : Room} {s : State} {m : MethodId} {args : Array Value} {below : List Frame} {meth : Method} {c : Code} {H : Heap} {locs : List Loc} {cells slots : Nat} {Q Q' : State → Prop} {g : JFrame} (hq : ∀ t, Q t → Q' t) (k : W p l e R s m args below meth c H locs cells slots Q g) : W p l e R s m args below meth c H locs cells slots Q' g := by
  intro T hT X
  obtain ⟨t, a, b⟩ := k T hT X
  exact ⟨t, a, hq t b⟩
theorem mn_Q_mono {G : mn_G} {s : State} {below : List Frame} {ad : Nat → Nat} {h h' : List mn_E} {o : mn_O} {C S C' S' : Nat} (hc : C ≤ C') (hs : S ≤ S') (t : State) (q : mn_Q G s below ad h o h' C S t) : mn_Q G s below ad h o h' C' S' t := by
  obtain ⟨oc, ad', locs', q1, q2, q3, q4, q5, q6, q7, q8⟩ := q
  exact ⟨oc, ad', locs', q1, q2, q3, q4, q5, q6, q7, q8.mono hc hs⟩
section EV
variable {sc : Nat × (Nat → Int32)} {d w k n : Nat} {M : mn_M} {pc : Nat} {lo : List (Nat × Value)} {st : List Value} {h : List mn_E} {r : mn_R}
theorem ev_none : Ev sc d w k n M pc lo st h none := fun o h' hr => by cases hr
theorem ev_widen {d' w' k' n' : Nat} (hd : d ≤ d') (hw : w ≤ w') (hk : k ≤ k') (hn : n ≤ n') (kk : Ev sc d w k n M pc lo st h r) : Ev sc d' w' k' n' M pc lo st h r := by
  intro o h' hr G hG p l e R s m args below meth c H locs cells slots ls ad hC hR hI hl
  exact mn_W_mono (mn_Q_mono (by omega) (by omega)) (kk o h' hr G hG p l e R s m args below meth c H locs cells slots ls ad hC ⟨Nat.le_trans hd hR.1, Nat.le_trans hw hR.2.1, by have := hR.2.2.1; omega, by have := hR.2.2.2; omega⟩ hI hl)
theorem ev_eq {r' : mn_R} (e : r = r') (kk : Ev sc d w k n M pc lo st h r') : Ev sc d w k n M pc lo st h r := e ▸ kk
theorem ev_lo {lo' : List (Nat × Value)} (hlo : ∀ q ∈ lo', q ∈ lo) (kk : Ev sc d w k n M pc lo' st h r) : Ev sc d w k n M pc lo st h r := by
  intro o h' hr G hG p l e R s m args below meth c H locs cells slots ls ad hC hR hI hl
  exact kk o h' hr G hG p l e R s m args below meth c H locs cells slots ls ad hC hR hI (mn_lo_sub hl hlo)
theorem ev_pick {lo' : List (Nat × Value)} (ks : List Nat) (hp : lv_pick lo ks = lo') (kk : Ev sc d w k n M pc lo' st h r) : Ev sc d w k n M pc lo st h r :=
  ev_lo (fun q hq => by
    rw [← hp] at hq
    obtain ⟨k, -, hk⟩ := List.mem_filterMap.mp hq
    exact List.mem_of_getElem? hk) kk
theorem ev_by {r1 r2 : mn_R} {c : Prop} [Decidable c] (k1 : c → Ev sc d w k n M pc lo st h r1) (k2 : ¬ c → Ev sc d w k n M pc lo st h r2) : Ev sc d w k n M pc lo st h (if c then r1 else r2) := by
  by_cases hc : c
  · rw [if_pos hc]; exact k1 hc
  · rw [if_neg hc]; exact k2 hc
theorem ev_iconst {z : Int} {v : Int32} (hd : decode M.2.1 pc = .ok (.iconst z, 1)) (hv : Int32.ofInt z = v) (kk : Ev sc d w k n M (pc + 1) lo (.int v :: st) h r) : Ev sc d w k n M pc lo (st) h r := by
  intro o h' hr G hG p l e R s m args below meth c H locs cells slots ls ad hC hR hI hl
  exact lv_iconst hC.1 hC.2.1 hd hv (kk o h' hr G hG p l e R s m args below meth c H locs cells slots ls ad hC hR hI hl)
theorem ev_bipush {z : Int} {v : Int32} (hd : decode M.2.1 pc = .ok (.bipush z, 2)) (hv : (Int8.ofInt z).toInt32 = v) (kk : Ev sc d w k n M (pc + 2) lo (.int v :: st) h r) : Ev sc d w k n M pc lo (st) h r := by
  intro o h' hr G hG p l e R s m args below meth c H locs cells slots ls ad hC hR hI hl
  exact lv_bipush hC.1 hC.2.1 hd hv (kk o h' hr G hG p l e R s m args below meth c H locs cells slots ls ad hC hR hI hl)
theorem ev_sipush {z : Int} {v : Int32} (hd : decode M.2.1 pc = .ok (.sipush z, 3)) (hv : (Int16.ofInt z).toInt32 = v) (kk : Ev sc d w k n M (pc + 3) lo (.int v :: st) h r) : Ev sc d w k n M pc lo (st) h r := by
  intro o h' hr G hG p l e R s m args below meth c H locs cells slots ls ad hC hR hI hl
  exact lv_sipush hC.1 hC.2.1 hd hv (kk o h' hr G hG p l e R s m args below meth c H locs cells slots ls ad hC hR hI hl)
theorem ev_lconst {z : Fin 2} {v : Int64} (hd : decode M.2.1 pc = .ok (.lconst z, 1)) (hv : Int64.ofNat (z : Nat) = v) (kk : Ev sc d w k n M (pc + 1) lo (.long v :: st) h r) : Ev sc d w k n M pc lo (st) h r := by
  intro o h' hr G hG p l e R s m args below meth c H locs cells slots ls ad hC hR hI hl
  exact lv_lconst hC.1 hC.2.1 hd hv (kk o h' hr G hG p l e R s m args below meth c H locs cells slots ls ad hC hR hI hl)
theorem ev_iload_n {z : Fin 4} {i : Nat} {x : Int32} (hd : decode M.2.1 pc = .ok (.iload_n z, 1)) (hi : (z : Nat) = i) (hx : lo.lookup i = some (.int x)) (kk : Ev sc d w k n M (pc + 1) lo (.int x :: st) h r) : Ev sc d w k n M pc lo (st) h r := by
  intro o h' hr G hG p l e R s m args below meth c H locs cells slots ls ad hC hR hI hl
  exact lv_iload_n hC.1 hC.2.1 hd hi (mn_lo_at hl hx) (kk o h' hr G hG p l e R s m args below meth c H locs cells slots ls ad hC hR hI hl)
theorem ev_iload {i : Nat} {x : Int32} (hd : decode M.2.1 pc = .ok (.iload i, 2)) (hx : lo.lookup i = some (.int x)) (kk : Ev sc d w k n M (pc + 2) lo (.int x :: st) h r) : Ev sc d w k n M pc lo (st) h r := by
  intro o h' hr G hG p l e R s m args below meth c H locs cells slots ls ad hC hR hI hl
  exact lv_iload hC.1 hC.2.1 hd (mn_lo_at hl hx) (kk o h' hr G hG p l e R s m args below meth c H locs cells slots ls ad hC hR hI hl)
theorem ev_lload_n {z : Fin 4} {i : Nat} {x : Int64} (hd : decode M.2.1 pc = .ok (.lload_n z, 1)) (hi : (z : Nat) = i) (hx : lo.lookup i = some (.long x)) (kk : Ev sc d w k n M (pc + 1) lo (.long x :: st) h r) : Ev sc d w k n M pc lo (st) h r := by
  intro o h' hr G hG p l e R s m args below meth c H locs cells slots ls ad hC hR hI hl
  exact lv_lload_n hC.1 hC.2.1 hd hi (mn_lo_at hl hx) (kk o h' hr G hG p l e R s m args below meth c H locs cells slots ls ad hC hR hI hl)
theorem ev_lload {i : Nat} {x : Int64} (hd : decode M.2.1 pc = .ok (.lload i, 2)) (hx : lo.lookup i = some (.long x)) (kk : Ev sc d w k n M (pc + 2) lo (.long x :: st) h r) : Ev sc d w k n M pc lo (st) h r := by
  intro o h' hr G hG p l e R s m args below meth c H locs cells slots ls ad hC hR hI hl
  exact lv_lload hC.1 hC.2.1 hd (mn_lo_at hl hx) (kk o h' hr G hG p l e R s m args below meth c H locs cells slots ls ad hC hR hI hl)
theorem ev_aload_n {z : Fin 4} {i x : Nat} (hd : decode M.2.1 pc = .ok (.aload_n z, 1)) (hi : (z : Nat) = i) (hx : lo.lookup i = some (.ref x)) (kk : Ev sc d w k n M (pc + 1) lo (.ref x :: st) h r) : Ev sc d w k n M pc lo (st) h r := by
  intro o h' hr G hG p l e R s m args below meth c H locs cells slots ls ad hC hR hI hl
  exact lv_aload_n hC.1 hC.2.1 hd hi (mn_lo_at hl hx) (kk o h' hr G hG p l e R s m args below meth c H locs cells slots ls ad hC hR hI hl)
theorem ev_aload {i x : Nat} (hd : decode M.2.1 pc = .ok (.aload i, 2)) (hx : lo.lookup i = some (.ref x)) (kk : Ev sc d w k n M (pc + 2) lo (.ref x :: st) h r) : Ev sc d w k n M pc lo (st) h r := by
  intro o h' hr G hG p l e R s m args below meth c H locs cells slots ls ad hC hR hI hl
  exact lv_aload hC.1 hC.2.1 hd (mn_lo_at hl hx) (kk o h' hr G hG p l e R s m args below meth c H locs cells slots ls ad hC hR hI hl)
theorem ev_istore_n {z : Fin 4} {i : Nat} {x : Int32} {lo' : List (Nat × Value)} (hd : decode M.2.1 pc = .ok (.istore_n z, 1)) (hi : (z : Nat) = i) (hn : i < M.2.2.1) (hlo : mn_st1 lo i (.int x) = lo') (kk : Ev sc d w k n M (pc + 1) lo' (st) h r) : Ev sc d w k n M pc lo (.int x :: st) h r := by
  intro o h' hr G hG p l e R s m args below meth c H locs cells slots ls ad hC hR hI hl
  subst hlo
  exact lv_istore_n hC.1 hC.2.1 hd hi hl hn (mn_lo_st1 ad lo i (.int x)) (fun ls' hl' => kk o h' hr G hG p l e R s m args below meth c H locs cells slots ls' ad hC hR hI hl')
theorem ev_istore {i : Nat} {x : Int32} {lo' : List (Nat × Value)} (hd : decode M.2.1 pc = .ok (.istore i, 2)) (hn : i < M.2.2.1) (hlo : mn_st1 lo i (.int x) = lo') (kk : Ev sc d w k n M (pc + 2) lo' (st) h r) : Ev sc d w k n M pc lo (.int x :: st) h r := by
  intro o h' hr G hG p l e R s m args below meth c H locs cells slots ls ad hC hR hI hl
  subst hlo
  exact lv_istore hC.1 hC.2.1 hd hl hn (mn_lo_st1 ad lo i (.int x)) (fun ls' hl' => kk o h' hr G hG p l e R s m args below meth c H locs cells slots ls' ad hC hR hI hl')
theorem ev_lstore_n {z : Fin 4} {i : Nat} {x : Int64} {lo' : List (Nat × Value)} (hd : decode M.2.1 pc = .ok (.lstore_n z, 1)) (hi : (z : Nat) = i) (hn : i + 1 < M.2.2.1) (hlo : mn_st2 lo i (.long x) = lo') (kk : Ev sc d w k n M (pc + 1) lo' (st) h r) : Ev sc d w k n M pc lo (.long x :: st) h r := by
  intro o h' hr G hG p l e R s m args below meth c H locs cells slots ls ad hC hR hI hl
  subst hlo
  exact lv_lstore_n hC.1 hC.2.1 hd hi hl hn (mn_lo_st2 ad lo i (.long x)) (fun ls' hl' => kk o h' hr G hG p l e R s m args below meth c H locs cells slots ls' ad hC hR hI hl')
theorem ev_lstore {i : Nat} {x : Int64} {lo' : List (Nat × Value)} (hd : decode M.2.1 pc = .ok (.lstore i, 2)) (hn : i + 1 < M.2.2.1) (hlo : mn_st2 lo i (.long x) = lo') (kk : Ev sc d w k n M (pc + 2) lo' (st) h r) : Ev sc d w k n M pc lo (.long x :: st) h r := by
  intro o h' hr G hG p l e R s m args below meth c H locs cells slots ls ad hC hR hI hl
  subst hlo
  exact lv_lstore hC.1 hC.2.1 hd hl hn (mn_lo_st2 ad lo i (.long x)) (fun ls' hl' => kk o h' hr G hG p l e R s m args below meth c H locs cells slots ls' ad hC hR hI hl')
theorem ev_astore_n {z : Fin 4} {i : Nat} {x : Nat} {lo' : List (Nat × Value)} (hd : decode M.2.1 pc = .ok (.astore_n z, 1)) (hi : (z : Nat) = i) (hn : i < M.2.2.1) (hlo : mn_st1 lo i (.ref x) = lo') (kk : Ev sc d w k n M (pc + 1) lo' (st) h r) : Ev sc d w k n M pc lo (.ref x :: st) h r := by
  intro o h' hr G hG p l e R s m args below meth c H locs cells slots ls ad hC hR hI hl
  subst hlo
  exact lv_astore_n hC.1 hC.2.1 hd hi hl hn (mn_lo_st1 ad lo i (.ref x)) (fun ls' hl' => kk o h' hr G hG p l e R s m args below meth c H locs cells slots ls' ad hC hR hI hl')
theorem ev_astore {i : Nat} {x : Nat} {lo' : List (Nat × Value)} (hd : decode M.2.1 pc = .ok (.astore i, 2)) (hn : i < M.2.2.1) (hlo : mn_st1 lo i (.ref x) = lo') (kk : Ev sc d w k n M (pc + 2) lo' (st) h r) : Ev sc d w k n M pc lo (.ref x :: st) h r := by
  intro o h' hr G hG p l e R s m args below meth c H locs cells slots ls ad hC hR hI hl
  subst hlo
  exact lv_astore hC.1 hC.2.1 hd hl hn (mn_lo_st1 ad lo i (.ref x)) (fun ls' hl' => kk o h' hr G hG p l e R s m args below meth c H locs cells slots ls' ad hC hR hI hl')
theorem ev_iadd {x y : Int32} (hd : decode M.2.1 pc = .ok (.iadd, 1))  (kk : Ev sc d w k n M (pc + 1) lo (.int (x + y) :: st) h r) : Ev sc d w k n M pc lo (.int y :: .int x :: st) h r := by
  intro o h' hr G hG p l e R s m args below meth c H locs cells slots ls ad hC hR hI hl
  exact lv_iadd hC.1 hC.2.1 hd  (kk o h' hr G hG p l e R s m args below meth c H locs cells slots ls ad hC hR hI hl)
theorem ev_isub {x y : Int32} (hd : decode M.2.1 pc = .ok (.isub, 1))  (kk : Ev sc d w k n M (pc + 1) lo (.int (x - y) :: st) h r) : Ev sc d w k n M pc lo (.int y :: .int x :: st) h r := by
  intro o h' hr G hG p l e R s m args below meth c H locs cells slots ls ad hC hR hI hl
  exact lv_isub hC.1 hC.2.1 hd  (kk o h' hr G hG p l e R s m args below meth c H locs cells slots ls ad hC hR hI hl)
theorem ev_imul {x y : Int32} (hd : decode M.2.1 pc = .ok (.imul, 1))  (kk : Ev sc d w k n M (pc + 1) lo (.int (x * y) :: st) h r) : Ev sc d w k n M pc lo (.int y :: .int x :: st) h r := by
  intro o h' hr G hG p l e R s m args below meth c H locs cells slots ls ad hC hR hI hl
  exact lv_imul hC.1 hC.2.1 hd  (kk o h' hr G hG p l e R s m args below meth c H locs cells slots ls ad hC hR hI hl)
theorem ev_iand {x y : Int32} (hd : decode M.2.1 pc = .ok (.iand, 1))  (kk : Ev sc d w k n M (pc + 1) lo (.int (x &&& y) :: st) h r) : Ev sc d w k n M pc lo (.int y :: .int x :: st) h r := by
  intro o h' hr G hG p l e R s m args below meth c H locs cells slots ls ad hC hR hI hl
  exact lv_iand hC.1 hC.2.1 hd  (kk o h' hr G hG p l e R s m args below meth c H locs cells slots ls ad hC hR hI hl)
theorem ev_ior {x y : Int32} (hd : decode M.2.1 pc = .ok (.ior, 1))  (kk : Ev sc d w k n M (pc + 1) lo (.int (x ||| y) :: st) h r) : Ev sc d w k n M pc lo (.int y :: .int x :: st) h r := by
  intro o h' hr G hG p l e R s m args below meth c H locs cells slots ls ad hC hR hI hl
  exact lv_ior hC.1 hC.2.1 hd  (kk o h' hr G hG p l e R s m args below meth c H locs cells slots ls ad hC hR hI hl)
theorem ev_ixor {x y : Int32} (hd : decode M.2.1 pc = .ok (.ixor, 1))  (kk : Ev sc d w k n M (pc + 1) lo (.int (x ^^^ y) :: st) h r) : Ev sc d w k n M pc lo (.int y :: .int x :: st) h r := by
  intro o h' hr G hG p l e R s m args below meth c H locs cells slots ls ad hC hR hI hl
  exact lv_ixor hC.1 hC.2.1 hd  (kk o h' hr G hG p l e R s m args below meth c H locs cells slots ls ad hC hR hI hl)
theorem ev_ishl {x y : Int32} (hd : decode M.2.1 pc = .ok (.ishl, 1))  (kk : Ev sc d w k n M (pc + 1) lo (.int (x <<< (y &&& 31)) :: st) h r) : Ev sc d w k n M pc lo (.int y :: .int x :: st) h r := by
  intro o h' hr G hG p l e R s m args below meth c H locs cells slots ls ad hC hR hI hl
  exact lv_ishl hC.1 hC.2.1 hd  (kk o h' hr G hG p l e R s m args below meth c H locs cells slots ls ad hC hR hI hl)
theorem ev_ishr {x y : Int32} (hd : decode M.2.1 pc = .ok (.ishr, 1))  (kk : Ev sc d w k n M (pc + 1) lo (.int (x >>> (y &&& 31)) :: st) h r) : Ev sc d w k n M pc lo (.int y :: .int x :: st) h r := by
  intro o h' hr G hG p l e R s m args below meth c H locs cells slots ls ad hC hR hI hl
  exact lv_ishr hC.1 hC.2.1 hd  (kk o h' hr G hG p l e R s m args below meth c H locs cells slots ls ad hC hR hI hl)
theorem ev_idiv {x y : Int32} (hd : decode M.2.1 pc = .ok (.idiv, 1)) (hne : ¬ y = 0) (kk : Ev sc d w k n M (pc + 1) lo (.int (x / y) :: st) h r) : Ev sc d w k n M pc lo (.int y :: .int x :: st) h r := by
  intro o h' hr G hG p l e R s m args below meth c H locs cells slots ls ad hC hR hI hl
  exact lv_idiv hC.1 hC.2.1 hd hne (kk o h' hr G hG p l e R s m args below meth c H locs cells slots ls ad hC hR hI hl)
theorem ev_irem {x y : Int32} (hd : decode M.2.1 pc = .ok (.irem, 1)) (hne : ¬ y = 0) (kk : Ev sc d w k n M (pc + 1) lo (.int (x - x / y * y) :: st) h r) : Ev sc d w k n M pc lo (.int y :: .int x :: st) h r := by
  intro o h' hr G hG p l e R s m args below meth c H locs cells slots ls ad hC hR hI hl
  exact lv_irem hC.1 hC.2.1 hd hne (kk o h' hr G hG p l e R s m args below meth c H locs cells slots ls ad hC hR hI hl)
theorem ev_ineg {x : Int32} (hd : decode M.2.1 pc = .ok (.ineg, 1))  (kk : Ev sc d w k n M (pc + 1) lo (.int (-x) :: st) h r) : Ev sc d w k n M pc lo (.int x :: st) h r := by
  intro o h' hr G hG p l e R s m args below meth c H locs cells slots ls ad hC hR hI hl
  exact lv_ineg hC.1 hC.2.1 hd  (kk o h' hr G hG p l e R s m args below meth c H locs cells slots ls ad hC hR hI hl)
theorem ev_ladd {x y : Int64} (hd : decode M.2.1 pc = .ok (.ladd, 1))  (kk : Ev sc d w k n M (pc + 1) lo (.long (x + y) :: st) h r) : Ev sc d w k n M pc lo (.long y :: .long x :: st) h r := by
  intro o h' hr G hG p l e R s m args below meth c H locs cells slots ls ad hC hR hI hl
  exact lv_ladd hC.1 hC.2.1 hd  (kk o h' hr G hG p l e R s m args below meth c H locs cells slots ls ad hC hR hI hl)
theorem ev_lsub {x y : Int64} (hd : decode M.2.1 pc = .ok (.lsub, 1))  (kk : Ev sc d w k n M (pc + 1) lo (.long (x - y) :: st) h r) : Ev sc d w k n M pc lo (.long y :: .long x :: st) h r := by
  intro o h' hr G hG p l e R s m args below meth c H locs cells slots ls ad hC hR hI hl
  exact lv_lsub hC.1 hC.2.1 hd  (kk o h' hr G hG p l e R s m args below meth c H locs cells slots ls ad hC hR hI hl)
theorem ev_lmul {x y : Int64} (hd : decode M.2.1 pc = .ok (.lmul, 1))  (kk : Ev sc d w k n M (pc + 1) lo (.long (x * y) :: st) h r) : Ev sc d w k n M pc lo (.long y :: .long x :: st) h r := by
  intro o h' hr G hG p l e R s m args below meth c H locs cells slots ls ad hC hR hI hl
  exact lv_lmul hC.1 hC.2.1 hd  (kk o h' hr G hG p l e R s m args below meth c H locs cells slots ls ad hC hR hI hl)
theorem ev_land {x y : Int64} (hd : decode M.2.1 pc = .ok (.land, 1))  (kk : Ev sc d w k n M (pc + 1) lo (.long (x &&& y) :: st) h r) : Ev sc d w k n M pc lo (.long y :: .long x :: st) h r := by
  intro o h' hr G hG p l e R s m args below meth c H locs cells slots ls ad hC hR hI hl
  exact lv_land hC.1 hC.2.1 hd  (kk o h' hr G hG p l e R s m args below meth c H locs cells slots ls ad hC hR hI hl)
theorem ev_lor {x y : Int64} (hd : decode M.2.1 pc = .ok (.lor, 1))  (kk : Ev sc d w k n M (pc + 1) lo (.long (x ||| y) :: st) h r) : Ev sc d w k n M pc lo (.long y :: .long x :: st) h r := by
  intro o h' hr G hG p l e R s m args below meth c H locs cells slots ls ad hC hR hI hl
  exact lv_lor hC.1 hC.2.1 hd  (kk o h' hr G hG p l e R s m args below meth c H locs cells slots ls ad hC hR hI hl)
theorem ev_lxor {x y : Int64} (hd : decode M.2.1 pc = .ok (.lxor, 1))  (kk : Ev sc d w k n M (pc + 1) lo (.long (x ^^^ y) :: st) h r) : Ev sc d w k n M pc lo (.long y :: .long x :: st) h r := by
  intro o h' hr G hG p l e R s m args below meth c H locs cells slots ls ad hC hR hI hl
  exact lv_lxor hC.1 hC.2.1 hd  (kk o h' hr G hG p l e R s m args below meth c H locs cells slots ls ad hC hR hI hl)
theorem ev_i2l {x : Int32} (hd : decode M.2.1 pc = .ok (.i2l, 1))  (kk : Ev sc d w k n M (pc + 1) lo (.long x.toInt64 :: st) h r) : Ev sc d w k n M pc lo (.int x :: st) h r := by
  intro o h' hr G hG p l e R s m args below meth c H locs cells slots ls ad hC hR hI hl
  exact lv_i2l hC.1 hC.2.1 hd rfl (kk o h' hr G hG p l e R s m args below meth c H locs cells slots ls ad hC hR hI hl)
theorem ev_l2i {x : Int64} (hd : decode M.2.1 pc = .ok (.l2i, 1))  (kk : Ev sc d w k n M (pc + 1) lo (.int x.toInt32 :: st) h r) : Ev sc d w k n M pc lo (.long x :: st) h r := by
  intro o h' hr G hG p l e R s m args below meth c H locs cells slots ls ad hC hR hI hl
  exact lv_l2i hC.1 hC.2.1 hd rfl (kk o h' hr G hG p l e R s m args below meth c H locs cells slots ls ad hC hR hI hl)
theorem ev_lshl {x : Int64} {y : Int32} (hd : decode M.2.1 pc = .ok (.lshl, 1))  (kk : Ev sc d w k n M (pc + 1) lo (.long (x <<< (y.toInt64 &&& 63)) :: st) h r) : Ev sc d w k n M pc lo (.int y :: .long x :: st) h r := by
  intro o h' hr G hG p l e R s m args below meth c H locs cells slots ls ad hC hR hI hl
  exact lv_lshl hC.1 hC.2.1 hd rfl (kk o h' hr G hG p l e R s m args below meth c H locs cells slots ls ad hC hR hI hl)
theorem ev_lshr {x : Int64} {y : Int32} (hd : decode M.2.1 pc = .ok (.lshr, 1))  (kk : Ev sc d w k n M (pc + 1) lo (.long (x >>> (y.toInt64 &&& 63)) :: st) h r) : Ev sc d w k n M pc lo (.int y :: .long x :: st) h r := by
  intro o h' hr G hG p l e R s m args below meth c H locs cells slots ls ad hC hR hI hl
  exact lv_lshr hC.1 hC.2.1 hd rfl (kk o h' hr G hG p l e R s m args below meth c H locs cells slots ls ad hC hR hI hl)
theorem ev_lushr {x : Int64} {y : Int32} (hd : decode M.2.1 pc = .ok (.lushr, 1))  (kk : Ev sc d w k n M (pc + 1) lo (.long (x.toUInt64 >>> (y.toInt64.toUInt64 &&& Int64.toUInt64 63)).toInt64 :: st) h r) : Ev sc d w k n M pc lo (.int y :: .long x :: st) h r := by
  intro o h' hr G hG p l e R s m args below meth c H locs cells slots ls ad hC hR hI hl
  exact lv_lushr hC.1 hC.2.1 hd rfl (kk o h' hr G hG p l e R s m args below meth c H locs cells slots ls ad hC hR hI hl)
theorem ev_iushr {x y : Int32} (hd : decode M.2.1 pc = .ok (.iushr, 1))  (kk : Ev sc d w k n M (pc + 1) lo (.int (x.toUInt32 >>> (y.toUInt32 &&& Int32.toUInt32 31)).toInt32 :: st) h r) : Ev sc d w k n M pc lo (.int y :: .int x :: st) h r := by
  intro o h' hr G hG p l e R s m args below meth c H locs cells slots ls ad hC hR hI hl
  exact lv_iushr hC.1 hC.2.1 hd rfl (kk o h' hr G hG p l e R s m args below meth c H locs cells slots ls ad hC hR hI hl)
theorem ev_lcmp {x y : Int64} (hd : decode M.2.1 pc = .ok (.lcmp, 1))  (kk : Ev sc d w k n M (pc + 1) lo (.int (lg_cmp x y) :: st) h r) : Ev sc d w k n M pc lo (.long y :: .long x :: st) h r := by
  intro o h' hr G hG p l e R s m args below meth c H locs cells slots ls ad hC hR hI hl
  exact W.lcmp hC.1 hC.2.1 hd  (kk o h' hr G hG p l e R s m args below meth c H locs cells slots ls ad hC hR hI hl)
theorem ev_dup {va : Value} (hd : decode M.2.1 pc = .ok (.dup, 1)) (hva : va.category = 1) (kk : Ev sc d w k n M (pc + 1) lo (va :: va :: st) h r) : Ev sc d w k n M pc lo (va :: st) h r := by
  intro o h' hr G hG p l e R s m args below meth c H locs cells slots ls ad hC hR hI hl
  exact lv_dup hC.1 hC.2.1 hd (by rw [mn_v_cat]; exact hva) (kk o h' hr G hG p l e R s m args below meth c H locs cells slots ls ad hC hR hI hl)
theorem ev_pop {va : Value} (hd : decode M.2.1 pc = .ok (.pop, 1)) (hva : va.category = 1) (kk : Ev sc d w k n M (pc + 1) lo (st) h r) : Ev sc d w k n M pc lo (va :: st) h r := by
  intro o h' hr G hG p l e R s m args below meth c H locs cells slots ls ad hC hR hI hl
  exact lv_pop hC.1 hC.2.1 hd (by rw [mn_v_cat]; exact hva) (kk o h' hr G hG p l e R s m args below meth c H locs cells slots ls ad hC hR hI hl)
theorem ev_dup_x1 {va vb : Value} (hd : decode M.2.1 pc = .ok (.dup_x1, 1)) (hva : va.category = 1) (hvb : vb.category = 1) (kk : Ev sc d w k n M (pc + 1) lo (va :: vb :: va :: st) h r) : Ev sc d w k n M pc lo (va :: vb :: st) h r := by
  intro o h' hr G hG p l e R s m args below meth c H locs cells slots ls ad hC hR hI hl
  exact lv_dup_x1 hC.1 hC.2.1 hd (by rw [mn_v_cat]; exact hva) (by rw [mn_v_cat]; exact hvb) (kk o h' hr G hG p l e R s m args below meth c H locs cells slots ls ad hC hR hI hl)
theorem ev_dup_x2 {va vb vd : Value} (hd : decode M.2.1 pc = .ok (.dup_x2, 1)) (hva : va.category = 1) (hvb : vb.category = 1) (hvd : vd.category = 1) (kk : Ev sc d w k n M (pc + 1) lo (va :: vb :: vd :: va :: st) h r) : Ev sc d w k n M pc lo (va :: vb :: vd :: st) h r := by
  intro o h' hr G hG p l e R s m args below meth c H locs cells slots ls ad hC hR hI hl
  exact lv_dup_x2 hC.1 hC.2.1 hd (by rw [mn_v_cat]; exact hva) (by rw [mn_v_cat]; exact hvb) (by rw [mn_v_cat]; exact hvd) (kk o h' hr G hG p l e R s m args below meth c H locs cells slots ls ad hC hR hI hl)
theorem ev_dup2_11 {va vb : Value} (hd : decode M.2.1 pc = .ok (.dup2, 1)) (hva : va.category = 1) (hvb : vb.category = 1) (kk : Ev sc d w k n M (pc + 1) lo (va :: vb :: va :: vb :: st) h r) : Ev sc d w k n M pc lo (va :: vb :: st) h r := by
  intro o h' hr G hG p l e R s m args below meth c H locs cells slots ls ad hC hR hI hl
  exact lv_dup2_11 hC.1 hC.2.1 hd (by rw [mn_v_cat]; exact hva) (by rw [mn_v_cat]; exact hvb) (kk o h' hr G hG p l e R s m args below meth c H locs cells slots ls ad hC hR hI hl)
theorem ev_dup2_2 {va : Value} (hd : decode M.2.1 pc = .ok (.dup2, 1)) (hva : va.category = 2) (kk : Ev sc d w k n M (pc + 1) lo (va :: va :: st) h r) : Ev sc d w k n M pc lo (va :: st) h r := by
  intro o h' hr G hG p l e R s m args below meth c H locs cells slots ls ad hC hR hI hl
  exact lv_dup2_2 hC.1 hC.2.1 hd (by rw [mn_v_cat]; exact hva) (kk o h' hr G hG p l e R s m args below meth c H locs cells slots ls ad hC hR hI hl)
theorem ev_dup2_x1_2 {va vb : Value} (hd : decode M.2.1 pc = .ok (.dup2_x1, 1)) (hva : va.category = 2) (hvb : vb.category = 1) (kk : Ev sc d w k n M (pc + 1) lo (va :: vb :: va :: st) h r) : Ev sc d w k n M pc lo (va :: vb :: st) h r := by
  intro o h' hr G hG p l e R s m args below meth c H locs cells slots ls ad hC hR hI hl
  exact lv_dup2_x1_2 hC.1 hC.2.1 hd (by rw [mn_v_cat]; exact hva) (by rw [mn_v_cat]; exact hvb) (kk o h' hr G hG p l e R s m args below meth c H locs cells slots ls ad hC hR hI hl)
theorem ev_iinc {i : Nat} {z : Int} {x v : Int32} {lo' : List (Nat × Value)} (hd : decode M.2.1 pc = .ok (.iinc i z, 3)) (hx : lo.lookup i = some (.int x)) (hv : x + Int32.ofInt z = v) (hn : i < M.2.2.1) (hlo : mn_st1 lo i (.int v) = lo') (kk : Ev sc d w k n M (pc + 3) lo' st h r) : Ev sc d w k n M pc lo st h r := by
  intro o h' hr G hG p l e R s m args below meth c H locs cells slots ls ad hC hR hI hl
  subst hlo
  obtain ⟨q, hq⟩ := List.getElem?_of_mem (show (i, Value.int x) ∈ mn_lo ad lo from List.mem_map.mpr ⟨_, mn_mem_of_lookup hx, rfl⟩)
  exact lv_iinc hC.1 hC.2.1 hd hl hq hv hn (mn_lo_st1 ad lo i (.int v)) (fun ls' hl' => kk o h' hr G hG p l e R s m args below meth c H locs cells slots ls' ad hC hR hI hl')
theorem ev_if_eq {x : Int32} {off : Int} {tgt : Nat} (hd : decode M.2.1 pc = .ok (.ifCond .eq off, 3)) (ht : (pc : Int) + off = (tgt : Int)) (kt : x = 0 → Ev sc d w k n M tgt lo st h r) (kf : ¬ (x = 0) → Ev sc d w k n M (pc + 3) lo st h r) : Ev sc d w k n M pc lo (.int x :: st) h r := by
  intro o h' hr G hG p l e R s m args below meth c H locs cells slots ls ad hC hR hI hl
  exact lv_if_eq hC.1 hC.2.1 hd ht (fun z => kt z o h' hr G hG p l e R s m args below meth c H locs cells slots ls ad hC hR hI hl) (fun z => kf z o h' hr G hG p l e R s m args below meth c H locs cells slots ls ad hC hR hI hl)
theorem ev_if_eq_d {x : Int32} {r1 r2 : mn_R} {off : Int} {tgt : Nat} (hd : decode M.2.1 pc = .ok (.ifCond .eq off, 3)) (ht : (pc : Int) + off = (tgt : Int)) (kt : Ev sc d w k n M tgt lo st h r1) (kf : Ev sc d w k n M (pc + 3) lo st h r2) : Ev sc d w k n M pc lo (.int x :: st) h (if x = 0 then r1 else r2) :=
  ev_if_eq hd ht (fun z => by rw [if_pos z]; exact kt) (fun z => by rw [if_neg z]; exact kf)
theorem ev_icmp_eq {x y : Int32} {off : Int} {tgt : Nat} (hd : decode M.2.1 pc = .ok (.if_icmp .eq off, 3)) (ht : (pc : Int) + off = (tgt : Int)) (kt : x = y → Ev sc d w k n M tgt lo st h r) (kf : ¬ (x = y) → Ev sc d w k n M (pc + 3) lo st h r) : Ev sc d w k n M pc lo (.int y :: .int x :: st) h r := by
  intro o h' hr G hG p l e R s m args below meth c H locs cells slots ls ad hC hR hI hl
  exact lv_icmp_eq hC.1 hC.2.1 hd ht (fun z => kt z o h' hr G hG p l e R s m args below meth c H locs cells slots ls ad hC hR hI hl) (fun z => kf z o h' hr G hG p l e R s m args below meth c H locs cells slots ls ad hC hR hI hl)
theorem ev_icmp_eq_d {x y : Int32} {r1 r2 : mn_R} {off : Int} {tgt : Nat} (hd : decode M.2.1 pc = .ok (.if_icmp .eq off, 3)) (ht : (pc : Int) + off = (tgt : Int)) (kt : Ev sc d w k n M tgt lo st h r1) (kf : Ev sc d w k n M (pc + 3) lo st h r2) : Ev sc d w k n M pc lo (.int y :: .int x :: st) h (if x = y then r1 else r2) :=
  ev_icmp_eq hd ht (fun z => by rw [if_pos z]; exact kt) (fun z => by rw [if_neg z]; exact kf)
theorem ev_if_ne {x : Int32} {off : Int} {tgt : Nat} (hd : decode M.2.1 pc = .ok (.ifCond .ne off, 3)) (ht : (pc : Int) + off = (tgt : Int)) (kt : ¬ x = 0 → Ev sc d w k n M tgt lo st h r) (kf : ¬ (¬ x = 0) → Ev sc d w k n M (pc + 3) lo st h r) : Ev sc d w k n M pc lo (.int x :: st) h r := by
  intro o h' hr G hG p l e R s m args below meth c H locs cells slots ls ad hC hR hI hl
  exact lv_if_ne hC.1 hC.2.1 hd ht (fun z => kt z o h' hr G hG p l e R s m args below meth c H locs cells slots ls ad hC hR hI hl) (fun z => kf (fun q => q z) o h' hr G hG p l e R s m args below meth c H locs cells slots ls ad hC hR hI hl)
theorem ev_if_ne_d {x : Int32} {r1 r2 : mn_R} {off : Int} {tgt : Nat} (hd : decode M.2.1 pc = .ok (.ifCond .ne off, 3)) (ht : (pc : Int) + off = (tgt : Int)) (kt : Ev sc d w k n M tgt lo st h r1) (kf : Ev sc d w k n M (pc + 3) lo st h r2) : Ev sc d w k n M pc lo (.int x :: st) h (if ¬ x = 0 then r1 else r2) :=
  ev_if_ne hd ht (fun z => by rw [if_pos z]; exact kt) (fun z => by rw [if_neg z]; exact kf)
theorem ev_icmp_ne {x y : Int32} {off : Int} {tgt : Nat} (hd : decode M.2.1 pc = .ok (.if_icmp .ne off, 3)) (ht : (pc : Int) + off = (tgt : Int)) (kt : ¬ x = y → Ev sc d w k n M tgt lo st h r) (kf : ¬ (¬ x = y) → Ev sc d w k n M (pc + 3) lo st h r) : Ev sc d w k n M pc lo (.int y :: .int x :: st) h r := by
  intro o h' hr G hG p l e R s m args below meth c H locs cells slots ls ad hC hR hI hl
  exact lv_icmp_ne hC.1 hC.2.1 hd ht (fun z => kt z o h' hr G hG p l e R s m args below meth c H locs cells slots ls ad hC hR hI hl) (fun z => kf (fun q => q z) o h' hr G hG p l e R s m args below meth c H locs cells slots ls ad hC hR hI hl)
theorem ev_icmp_ne_d {x y : Int32} {r1 r2 : mn_R} {off : Int} {tgt : Nat} (hd : decode M.2.1 pc = .ok (.if_icmp .ne off, 3)) (ht : (pc : Int) + off = (tgt : Int)) (kt : Ev sc d w k n M tgt lo st h r1) (kf : Ev sc d w k n M (pc + 3) lo st h r2) : Ev sc d w k n M pc lo (.int y :: .int x :: st) h (if ¬ x = y then r1 else r2) :=
  ev_icmp_ne hd ht (fun z => by rw [if_pos z]; exact kt) (fun z => by rw [if_neg z]; exact kf)
theorem ev_if_lt {x : Int32} {off : Int} {tgt : Nat} (hd : decode M.2.1 pc = .ok (.ifCond .lt off, 3)) (ht : (pc : Int) + off = (tgt : Int)) (kt : x < 0 → Ev sc d w k n M tgt lo st h r) (kf : ¬ (x < 0) → Ev sc d w k n M (pc + 3) lo st h r) : Ev sc d w k n M pc lo (.int x :: st) h r := by
  intro o h' hr G hG p l e R s m args below meth c H locs cells slots ls ad hC hR hI hl
  exact lv_if_lt hC.1 hC.2.1 hd ht (fun z => kt z o h' hr G hG p l e R s m args below meth c H locs cells slots ls ad hC hR hI hl) (fun z => kf z o h' hr G hG p l e R s m args below meth c H locs cells slots ls ad hC hR hI hl)
theorem ev_if_lt_d {x : Int32} {r1 r2 : mn_R} {off : Int} {tgt : Nat} (hd : decode M.2.1 pc = .ok (.ifCond .lt off, 3)) (ht : (pc : Int) + off = (tgt : Int)) (kt : Ev sc d w k n M tgt lo st h r1) (kf : Ev sc d w k n M (pc + 3) lo st h r2) : Ev sc d w k n M pc lo (.int x :: st) h (if x < 0 then r1 else r2) :=
  ev_if_lt hd ht (fun z => by rw [if_pos z]; exact kt) (fun z => by rw [if_neg z]; exact kf)
theorem ev_icmp_lt {x y : Int32} {off : Int} {tgt : Nat} (hd : decode M.2.1 pc = .ok (.if_icmp .lt off, 3)) (ht : (pc : Int) + off = (tgt : Int)) (kt : x < y → Ev sc d w k n M tgt lo st h r) (kf : ¬ (x < y) → Ev sc d w k n M (pc + 3) lo st h r) : Ev sc d w k n M pc lo (.int y :: .int x :: st) h r := by
  intro o h' hr G hG p l e R s m args below meth c H locs cells slots ls ad hC hR hI hl
  exact lv_icmp_lt hC.1 hC.2.1 hd ht (fun z => kt z o h' hr G hG p l e R s m args below meth c H locs cells slots ls ad hC hR hI hl) (fun z => kf z o h' hr G hG p l e R s m args below meth c H locs cells slots ls ad hC hR hI hl)
theorem ev_icmp_lt_d {x y : Int32} {r1 r2 : mn_R} {off : Int} {tgt : Nat} (hd : decode M.2.1 pc = .ok (.if_icmp .lt off, 3)) (ht : (pc : Int) + off = (tgt : Int)) (kt : Ev sc d w k n M tgt lo st h r1) (kf : Ev sc d w k n M (pc + 3) lo st h r2) : Ev sc d w k n M pc lo (.int y :: .int x :: st) h (if x < y then r1 else r2) :=
  ev_icmp_lt hd ht (fun z => by rw [if_pos z]; exact kt) (fun z => by rw [if_neg z]; exact kf)
theorem ev_if_ge {x : Int32} {off : Int} {tgt : Nat} (hd : decode M.2.1 pc = .ok (.ifCond .ge off, 3)) (ht : (pc : Int) + off = (tgt : Int)) (kt : 0 ≤ x → Ev sc d w k n M tgt lo st h r) (kf : ¬ (0 ≤ x) → Ev sc d w k n M (pc + 3) lo st h r) : Ev sc d w k n M pc lo (.int x :: st) h r := by
  intro o h' hr G hG p l e R s m args below meth c H locs cells slots ls ad hC hR hI hl
  exact lv_if_ge hC.1 hC.2.1 hd ht (fun z => kt z o h' hr G hG p l e R s m args below meth c H locs cells slots ls ad hC hR hI hl) (fun z => kf z o h' hr G hG p l e R s m args below meth c H locs cells slots ls ad hC hR hI hl)
theorem ev_if_ge_d {x : Int32} {r1 r2 : mn_R} {off : Int} {tgt : Nat} (hd : decode M.2.1 pc = .ok (.ifCond .ge off, 3)) (ht : (pc : Int) + off = (tgt : Int)) (kt : Ev sc d w k n M tgt lo st h r1) (kf : Ev sc d w k n M (pc + 3) lo st h r2) : Ev sc d w k n M pc lo (.int x :: st) h (if 0 ≤ x then r1 else r2) :=
  ev_if_ge hd ht (fun z => by rw [if_pos z]; exact kt) (fun z => by rw [if_neg z]; exact kf)
theorem ev_icmp_ge {x y : Int32} {off : Int} {tgt : Nat} (hd : decode M.2.1 pc = .ok (.if_icmp .ge off, 3)) (ht : (pc : Int) + off = (tgt : Int)) (kt : y ≤ x → Ev sc d w k n M tgt lo st h r) (kf : ¬ (y ≤ x) → Ev sc d w k n M (pc + 3) lo st h r) : Ev sc d w k n M pc lo (.int y :: .int x :: st) h r := by
  intro o h' hr G hG p l e R s m args below meth c H locs cells slots ls ad hC hR hI hl
  exact lv_icmp_ge hC.1 hC.2.1 hd ht (fun z => kt z o h' hr G hG p l e R s m args below meth c H locs cells slots ls ad hC hR hI hl) (fun z => kf z o h' hr G hG p l e R s m args below meth c H locs cells slots ls ad hC hR hI hl)
theorem ev_icmp_ge_d {x y : Int32} {r1 r2 : mn_R} {off : Int} {tgt : Nat} (hd : decode M.2.1 pc = .ok (.if_icmp .ge off, 3)) (ht : (pc : Int) + off = (tgt : Int)) (kt : Ev sc d w k n M tgt lo st h r1) (kf : Ev sc d w k n M (pc + 3) lo st h r2) : Ev sc d w k n M pc lo (.int y :: .int x :: st) h (if y ≤ x then r1 else r2) :=
  ev_icmp_ge hd ht (fun z => by rw [if_pos z]; exact kt) (fun z => by rw [if_neg z]; exact kf)
theorem ev_if_gt {x : Int32} {off : Int} {tgt : Nat} (hd : decode M.2.1 pc = .ok (.ifCond .gt off, 3)) (ht : (pc : Int) + off = (tgt : Int)) (kt : 0 < x → Ev sc d w k n M tgt lo st h r) (kf : ¬ (0 < x) → Ev sc d w k n M (pc + 3) lo st h r) : Ev sc d w k n M pc lo (.int x :: st) h r := by
  intro o h' hr G hG p l e R s m args below meth c H locs cells slots ls ad hC hR hI hl
  exact lv_if_gt hC.1 hC.2.1 hd ht (fun z => kt z o h' hr G hG p l e R s m args below meth c H locs cells slots ls ad hC hR hI hl) (fun z => kf z o h' hr G hG p l e R s m args below meth c H locs cells slots ls ad hC hR hI hl)
theorem ev_if_gt_d {x : Int32} {r1 r2 : mn_R} {off : Int} {tgt : Nat} (hd : decode M.2.1 pc = .ok (.ifCond .gt off, 3)) (ht : (pc : Int) + off = (tgt : Int)) (kt : Ev sc d w k n M tgt lo st h r1) (kf : Ev sc d w k n M (pc + 3) lo st h r2) : Ev sc d w k n M pc lo (.int x :: st) h (if 0 < x then r1 else r2) :=
  ev_if_gt hd ht (fun z => by rw [if_pos z]; exact kt) (fun z => by rw [if_neg z]; exact kf)
theorem ev_icmp_gt {x y : Int32} {off : Int} {tgt : Nat} (hd : decode M.2.1 pc = .ok (.if_icmp .gt off, 3)) (ht : (pc : Int) + off = (tgt : Int)) (kt : y < x → Ev sc d w k n M tgt lo st h r) (kf : ¬ (y < x) → Ev sc d w k n M (pc + 3) lo st h r) : Ev sc d w k n M pc lo (.int y :: .int x :: st) h r := by
  intro o h' hr G hG p l e R s m args below meth c H locs cells slots ls ad hC hR hI hl
  exact lv_icmp_gt hC.1 hC.2.1 hd ht (fun z => kt z o h' hr G hG p l e R s m args below meth c H locs cells slots ls ad hC hR hI hl) (fun z => kf z o h' hr G hG p l e R s m args below meth c H locs cells slots ls ad hC hR hI hl)
theorem ev_icmp_gt_d {x y : Int32} {r1 r2 : mn_R} {off : Int} {tgt : Nat} (hd : decode M.2.1 pc = .ok (.if_icmp .gt off, 3)) (ht : (pc : Int) + off = (tgt : Int)) (kt : Ev sc d w k n M tgt lo st h r1) (kf : Ev sc d w k n M (pc + 3) lo st h r2) : Ev sc d w k n M pc lo (.int y :: .int x :: st) h (if y < x then r1 else r2) :=
  ev_icmp_gt hd ht (fun z => by rw [if_pos z]; exact kt) (fun z => by rw [if_neg z]; exact kf)
theorem ev_if_le {x : Int32} {off : Int} {tgt : Nat} (hd : decode M.2.1 pc = .ok (.ifCond .le off, 3)) (ht : (pc : Int) + off = (tgt : Int)) (kt : x ≤ 0 → Ev sc d w k n M tgt lo st h r) (kf : ¬ (x ≤ 0) → Ev sc d w k n M (pc + 3) lo st h r) : Ev sc d w k n M pc lo (.int x :: st) h r := by
  intro o h' hr G hG p l e R s m args below meth c H locs cells slots ls ad hC hR hI hl
  exact lv_if_le hC.1 hC.2.1 hd ht (fun z => kt z o h' hr G hG p l e R s m args below meth c H locs cells slots ls ad hC hR hI hl) (fun z => kf z o h' hr G hG p l e R s m args below meth c H locs cells slots ls ad hC hR hI hl)
theorem ev_if_le_d {x : Int32} {r1 r2 : mn_R} {off : Int} {tgt : Nat} (hd : decode M.2.1 pc = .ok (.ifCond .le off, 3)) (ht : (pc : Int) + off = (tgt : Int)) (kt : Ev sc d w k n M tgt lo st h r1) (kf : Ev sc d w k n M (pc + 3) lo st h r2) : Ev sc d w k n M pc lo (.int x :: st) h (if x ≤ 0 then r1 else r2) :=
  ev_if_le hd ht (fun z => by rw [if_pos z]; exact kt) (fun z => by rw [if_neg z]; exact kf)
theorem ev_icmp_le {x y : Int32} {off : Int} {tgt : Nat} (hd : decode M.2.1 pc = .ok (.if_icmp .le off, 3)) (ht : (pc : Int) + off = (tgt : Int)) (kt : x ≤ y → Ev sc d w k n M tgt lo st h r) (kf : ¬ (x ≤ y) → Ev sc d w k n M (pc + 3) lo st h r) : Ev sc d w k n M pc lo (.int y :: .int x :: st) h r := by
  intro o h' hr G hG p l e R s m args below meth c H locs cells slots ls ad hC hR hI hl
  exact lv_icmp_le hC.1 hC.2.1 hd ht (fun z => kt z o h' hr G hG p l e R s m args below meth c H locs cells slots ls ad hC hR hI hl) (fun z => kf z o h' hr G hG p l e R s m args below meth c H locs cells slots ls ad hC hR hI hl)
theorem ev_icmp_le_d {x y : Int32} {r1 r2 : mn_R} {off : Int} {tgt : Nat} (hd : decode M.2.1 pc = .ok (.if_icmp .le off, 3)) (ht : (pc : Int) + off = (tgt : Int)) (kt : Ev sc d w k n M tgt lo st h r1) (kf : Ev sc d w k n M (pc + 3) lo st h r2) : Ev sc d w k n M pc lo (.int y :: .int x :: st) h (if x ≤ y then r1 else r2) :=
  ev_icmp_le hd ht (fun z => by rw [if_pos z]; exact kt) (fun z => by rw [if_neg z]; exact kf)
theorem ev_goto {off : Int} {tgt : Nat} (hd : decode M.2.1 pc = .ok (.goto off, 3)) (ht : (pc : Int) + off = (tgt : Int)) (kk : Ev sc d w k n M tgt lo st h r) : Ev sc d w k n M pc lo st h r := by
  intro o h' hr G hG p l e R s m args below meth c H locs cells slots ls ad hC hR hI hl
  exact lv_goto hC.1 hC.2.1 hd ht (kk o h' hr G hG p l e R s m args below meth c H locs cells slots ls ad hC hR hI hl)
theorem ev_ldc {index : Nat} {v : Int32} (hw : Jvm.Cond.constant M.1.cls index v ∈ gd_tb) (hd : decode M.2.1 pc = .ok (.ldc index, 2)) (kk : Ev sc d w k n M (pc + 2) lo (.int v :: st) h r) : Ev sc d w k n M pc lo st h r := by
  intro o h' hr G hG p l e R s m args below meth c H locs cells slots ls ad hC hR hI hl
  exact lv_ldc hC.1 hC.2.1 hC.2.2.2.2.1 (hC.2.2.2.2.2.1 _ hw) hd (kk o h' hr G hG p l e R s m args below meth c H locs cells slots ls ad hC hR hI hl)
theorem ev_ldc2 {index : Nat} {v : Int64} (hw : Jvm.Cond.constantLong M.1.cls index v ∈ gd_tb) (hd : decode M.2.1 pc = .ok (.ldc2_w index, 3)) (kk : Ev sc d w k n M (pc + 3) lo (.long v :: st) h r) : Ev sc d w k n M pc lo st h r := by
  intro o h' hr G hG p l e R s m args below meth c H locs cells slots ls ad hC hR hI hl
  exact lv_ldc2 hC.1 hC.2.1 hC.2.2.2.2.1 (hC.2.2.2.2.2.1 _ hw) hd (kk o h' hr G hG p l e R s m args below meth c H locs cells slots ls ad hC hR hI hl)
theorem ev_tableOut {dflt lo_ hi : Int} {offs : Array Int} {len : Nat} {x : Int32} {tgt : Nat} (hd : decode M.2.1 pc = .ok (.tableswitch dflt lo_ hi offs, len)) (hx : x.toInt < lo_ ∨ hi < x.toInt) (ht : (pc : Int) + dflt = (tgt : Int)) (kk : Ev sc d w k n M tgt lo st h r) : Ev sc d w k n M pc lo (.int x :: st) h r := by
  intro o h' hr G hG p l e R s m args below meth c H locs cells slots ls ad hC hR hI hl
  exact lv_tableOut hC.1 hC.2.1 hd hx ht (kk o h' hr G hG p l e R s m args below meth c H locs cells slots ls ad hC hR hI hl)
theorem ev_tableIn {dflt lo_ hi : Int} {offs : Array Int} {len : Nat} {x : Int32} {off : Int} {tgt : Nat} (hd : decode M.2.1 pc = .ok (.tableswitch dflt lo_ hi offs, len)) (h1 : ¬ x.toInt < lo_) (h2 : ¬ hi < x.toInt) (ho : offs[(x.toInt - lo_).toNat]? = some off) (ht : (pc : Int) + off = (tgt : Int)) (kk : Ev sc d w k n M tgt lo st h r) : Ev sc d w k n M pc lo (.int x :: st) h r := by
  intro o h' hr G hG p l e R s m args below meth c H locs cells slots ls ad hC hR hI hl
  exact lv_tableIn hC.1 hC.2.1 hd h1 h2 ho ht (kk o h' hr G hG p l e R s m args below meth c H locs cells slots ls ad hC hR hI hl)
theorem ev_lookup {dflt : Int} {ps : Array (Int × Int)} {len : Nat} {x : Int32} {off : Int} {tgt : Nat} (hd : decode M.2.1 pc = .ok (.lookupswitch dflt ps, len)) (hp : (ps.toList.zip (ps.toList.drop 1)).all (fun (a, next) => a.1 < next.1) = true) (ho : Op.lookupswitch.offset ps.toList dflt x.toInt = off) (ht : (pc : Int) + off = (tgt : Int)) (kk : Ev sc d w k n M tgt lo st h r) : Ev sc d w k n M pc lo (.int x :: st) h r := by
  intro o h' hr G hG p l e R s m args below meth c H locs cells slots ls ad hC hR hI hl
  exact lv_lookup hC.1 hC.2.1 hd hp ho ht (kk o h' hr G hG p l e R s m args below meth c H locs cells slots ls ad hC hR hI hl)
end EV
