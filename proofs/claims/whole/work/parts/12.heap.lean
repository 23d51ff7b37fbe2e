/-! fields, arrays, answers -/
theorem mn_X_kept {A : Nat → Prop} {b L : Nat} {xs : Nat → Int32} {s : State} {H H1 : Heap} {l l1 : List Loc} (hS : va_S A s.heap H l) (hS1 : va_S A s.heap H1 l1) (hb : b < s.heap.size) (hA : ¬ A b) (hX : va_X b L xs s H) : va_X b L xs s H1 :=
  hX.kept (by rw [hS1.2.1 b hb hA, hS.2.1 b hb hA])
theorem mn_I_put {G : mn_G} {M : mn_M} {p : Program} {e : Env} {s : State} {m : MethodId} {args : Array Value} {meth : Method} {c : Code} {ad : Nat → Nat} {h h2 : List mn_E} {H H1 : Heap} {locs locs1 : List Loc} (hC : mn_C G M p e s m args meth c) (hI : mn_I G ad h s H locs)
    (hP : va_P G.1 gd_cl (mn_w G.2.1 ad h2) H1) (hD : va_D (fun q => G.2.2.1 ≤ q) (mn_w G.2.1 ad h2)) (hS : va_S (fun q => G.2.2.1 ≤ q) s.heap H1 locs1) : mn_I G ad h2 s H1 locs1 := by
  have hb : G.2.2.2.1 < G.2.2.1 := hC.2.2.2.2.2.2.2.2.2.2.2.1
  have hs : G.2.2.1 ≤ s.heap.size := hC.2.2.2.2.2.2.2.2.1
  exact ⟨hP, hD, hS, mn_X_kept hI.2.2.1 hS (by omega) (by omega) hI.2.2.2.1, hI.2.2.2.2⟩
section EH
variable {sc : Nat × (Nat → Int32)} {d w k n : Nat} {M : mn_M} {pc : Nat} {lo : List (Nat × Value)} {st : List Value} {h : List mn_E} {r : mn_R}
theorem ev_get {C : String} {T : u_T} {N ci index q : Nat} {fs : List Value} {v : Value} (hin : ∀ w ∈ u_ws C T N, w ∈ gd_tb) (hc : gd_cl[ci]? = some (C, T, N)) (hq : h[q]? = some (.inr (ci, fs))) (j : Nat) (hj : j < N) (hw : Cond.fieldLink M.1.cls index (T j).1 (T j).2.1 (T j).2.2.1 ∈ gd_tb) (hv : fs[j]? = some v) (hd : decode M.2.1 pc = .ok (.getfield index, 3))
    (kk : Ev sc d w k n M (pc + 3) lo (v :: st) h r) : Ev sc d w k n M pc lo (.ref q :: st) h r := by
  intro o h' hr G hG p l e R s m args below meth c H locs cells slots ls ad hC hR hI hl
  exact va_get (D := G.1) hC.1 hC.2.1 hC.2.2.2.2.2.1 hin hC.2.2.2.2.1 hC.2.2.2.2.2.2.2.1 hI.1 q (mn_w_at hq) hc j hj (hC.2.2.2.2.2.1 _ hw) (fun _ z => z) (by rw [List.getElem?_map, hv]; rfl) hd (kk o h' hr G hG p l e R s m args below meth c H locs cells slots ls ad hC hR hI hl)
theorem ev_getN {C host : String} {T : u_T} {N ci index q : Nat} {fs : List Value} {v : Value} (hin : ∀ w ∈ u_ws C T N, w ∈ gd_tb) (hc : gd_cl[ci]? = some (C, T, N)) (hq : h[q]? = some (.inr (ci, fs))) (j : Nat) (hj : j < N) (hw : Cond.fieldLinkNest M.1.cls index (T j).1 (T j).2.1 (T j).2.2.1 host ∈ gd_tb) (hv : fs[j]? = some v) (hd : decode M.2.1 pc = .ok (.getfield index, 3))
    (kk : Ev sc d w k n M (pc + 3) lo (v :: st) h r) : Ev sc d w k n M pc lo (.ref q :: st) h r := by
  intro o h' hr G hG p l e R s m args below meth c H locs cells slots ls ad hC hR hI hl
  exact va_getN (D := G.1) hC.1 hC.2.1 hC.2.2.2.2.2.1 hin hC.2.2.2.2.1 hC.2.2.2.2.2.2.2.1 hI.1 q (mn_w_at hq) hc j hj (hC.2.2.2.2.2.1 _ hw) (fun _ z => z) (by rw [List.getElem?_map, hv]; rfl) hd (kk o h' hr G hG p l e R s m args below meth c H locs cells slots ls ad hC hR hI hl)
theorem mn_set_inr {dA : Nat → ClassId} {ad : Nat → Nat} {h : List mn_E} {q ci j : Nat} {fs : List Value} {v : Value} : (mn_w dA ad h).set q (ad q, .inr (ci, (fs.map (mn_v ad)).set j (mn_v ad v))) = mn_w dA ad (h.set q (.inr (ci, fs.set j v))) := by
  rw [← mn_w_set]
  simp only [mn_e, List.map_set]
theorem ev_put {C : String} {T : u_T} {N ci index q : Nat} {fs : List Value} {v : Value} {ty : FieldType} {h2 : List mn_E} (hin : ∀ w ∈ u_ws C T N, w ∈ gd_tb) (ty0 : Nat → FieldType) (hty : ∀ k, k < N → parseFieldDescriptor (T k).2.2.1 = some (ty0 k)) (hnm : ∀ a, a < N → ∀ b, b < N → a ≠ b → (T a).2.1 ≠ (T b).2.1) (hc : gd_cl[ci]? = some (C, T, N)) (hq : h[q]? = some (.inr (ci, fs))) (j : Nat) (hj : j < N) (hw : Cond.fieldLink M.1.cls index (T j).1 (T j).2.1 (T j).2.2.1 ∈ gd_tb) (hfin : (T j).2.2.2 = false) (hdc : parseFieldDescriptor (T j).2.2.1 = some ty) (hn : ∀ ad, narrow ty (mn_v ad v) = mn_v ad v) (hf : ∀ ad, fits ty (mn_v ad v) = true) (hlen : j < fs.length) (h2e : h.set q (.inr (ci, fs.set j v)) = h2) (hd : decode M.2.1 pc = .ok (.putfield index, 3))
    (kk : Ev sc d w k n M (pc + 3) lo st h2 r) : Ev sc d w k n M pc lo (v :: .ref q :: st) h r := by
  intro o h' hr G hG p l e R s m args below meth c H locs cells slots ls ad hC hR hI hl
  subst h2e
  have hlen2 : h.length = (h.set q (.inr (ci, fs.set j v))).length := by rw [List.length_set]
  refine va_put (D := G.1) hC.1 hC.2.1 hC.2.2.2.2.2.1 hin ty0 hty hnm hC.2.2.2.2.1 hC.2.2.2.2.2.2.2.1 hI.1 hI.2.1 hI.2.2.1 q (mn_w_at hq) hc j hj (hC.2.2.2.2.2.1 _ hw) (fun _ z => z) hfin hdc (hn ad) (hf ad) (by rw [List.length_map]; exact hlen) hd (fun H1 locs1 hP hD hS => ?_)
  rw [mn_set_inr] at hP hD
  have h9 := kk o h' hr G hG p l e R s m args below meth c H1 locs1 cells slots ls ad hC hR (mn_I_put hC hI hP hD hS) hl
  unfold mn_Q at h9 ⊢
  rw [← hlen2] at h9
  exact h9
theorem ev_putN {C host : String} {T : u_T} {N ci index q : Nat} {fs : List Value} {v : Value} {ty : FieldType} {h2 : List mn_E} (hin : ∀ w ∈ u_ws C T N, w ∈ gd_tb) (ty0 : Nat → FieldType) (hty : ∀ k, k < N → parseFieldDescriptor (T k).2.2.1 = some (ty0 k)) (hnm : ∀ a, a < N → ∀ b, b < N → a ≠ b → (T a).2.1 ≠ (T b).2.1) (hc : gd_cl[ci]? = some (C, T, N)) (hq : h[q]? = some (.inr (ci, fs))) (j : Nat) (hj : j < N) (hw : Cond.fieldLinkNest M.1.cls index (T j).1 (T j).2.1 (T j).2.2.1 host ∈ gd_tb) (hfin : (T j).2.2.2 = false) (hdc : parseFieldDescriptor (T j).2.2.1 = some ty) (hn : ∀ ad, narrow ty (mn_v ad v) = mn_v ad v) (hf : ∀ ad, fits ty (mn_v ad v) = true) (hlen : j < fs.length) (h2e : h.set q (.inr (ci, fs.set j v)) = h2) (hd : decode M.2.1 pc = .ok (.putfield index, 3))
    (kk : Ev sc d w k n M (pc + 3) lo st h2 r) : Ev sc d w k n M pc lo (v :: .ref q :: st) h r := by
  intro o h' hr G hG p l e R s m args below meth c H locs cells slots ls ad hC hR hI hl
  subst h2e
  have hlen2 : h.length = (h.set q (.inr (ci, fs.set j v))).length := by rw [List.length_set]
  refine va_putN (D := G.1) hC.1 hC.2.1 hC.2.2.2.2.2.1 hin ty0 hty hnm hC.2.2.2.2.1 hC.2.2.2.2.2.2.2.1 hI.1 hI.2.1 hI.2.2.1 q (mn_w_at hq) hc j hj (hC.2.2.2.2.2.1 _ hw) (fun _ z => z) hfin hdc (hn ad) (hf ad) (by rw [List.length_map]; exact hlen) hd (fun H1 locs1 hP hD hS => ?_)
  rw [mn_set_inr] at hP hD
  have h9 := kk o h' hr G hG p l e R s m args below meth c H1 locs1 cells slots ls ad hC hR (mn_I_put hC hI hP hD hS) hl
  unfold mn_Q at h9 ⊢
  rw [← hlen2] at h9
  exact h9
theorem ev_putF {C : String} {T : u_T} {N ci index q : Nat} {fs : List Value} {v : Value} {ty : FieldType} {h2 : List mn_E} (hin : ∀ w ∈ u_ws C T N, w ∈ gd_tb) (ty0 : Nat → FieldType) (hty : ∀ k, k < N → parseFieldDescriptor (T k).2.2.1 = some (ty0 k)) (hnm : ∀ a, a < N → ∀ b, b < N → a ≠ b → (T a).2.1 ≠ (T b).2.1) (hc : gd_cl[ci]? = some (C, T, N)) (hq : h[q]? = some (.inr (ci, fs))) (j : Nat) (hj : j < N) (hw : Cond.fieldLink M.1.cls index (T j).1 (T j).2.1 (T j).2.2.1 ∈ gd_tb) (hfin : (T j).2.2.2 = true) (hname : M.1.name = "<init>") (hdecl : (T j).1 = M.1.cls) (hdc : parseFieldDescriptor (T j).2.2.1 = some ty) (hn : ∀ ad, narrow ty (mn_v ad v) = mn_v ad v) (hf : ∀ ad, fits ty (mn_v ad v) = true) (hlen : j < fs.length) (h2e : h.set q (.inr (ci, fs.set j v)) = h2) (hd : decode M.2.1 pc = .ok (.putfield index, 3))
    (kk : Ev sc d w k n M (pc + 3) lo st h2 r) : Ev sc d w k n M pc lo (v :: .ref q :: st) h r := by
  intro o h' hr G hG p l e R s m args below meth c H locs cells slots ls ad hC hR hI hl
  subst h2e
  have hlen2 : h.length = (h.set q (.inr (ci, fs.set j v))).length := by rw [List.length_set]
  refine va_putF (D := G.1) hC.1 hC.2.1 hC.2.2.2.2.2.1 hin ty0 hty hnm hC.2.2.2.2.1 hC.2.2.2.2.2.2.2.1 hI.1 hI.2.1 hI.2.2.1 q (mn_w_at hq) hc j hj (hC.2.2.2.2.2.1 _ hw) (fun _ z => z) hfin (by rw [hC.2.2.2.2.2.2.2.2.2.2.1]; exact hname) hdecl hdc (hn ad) (hf ad) (by rw [List.length_map]; exact hlen) hd (fun H1 locs1 hP hD hS => ?_)
  rw [mn_set_inr] at hP hD
  have h9 := kk o h' hr G hG p l e R s m args below meth c H1 locs1 cells slots ls ad hC hR (mn_I_put hC hI hP hD hS) hl
  unfold mn_Q at h9 ⊢
  rw [← hlen2] at h9
  exact h9
theorem ev_iaload {q cnt : Nat} {f : Nat → Int32} {i : Int32} (hq : h[q]? = some (.inl (0, cnt, .inl f))) (hin : vp_in i cnt) (hd : decode M.2.1 pc = .ok (.iaload, 1))
    (kk : Ev sc d w k n M (pc + 1) lo (.int (f i.toNatClampNeg) :: st) h r) : Ev sc d w k n M pc lo (.int i :: .ref q :: st) h r := by
  intro o h' hr G hG p l e R s m args below meth c H locs cells slots ls ad hC hR hI hl
  exact va_iald hC.1 hC.2.1 hC.2.2.2.2.2.2.2.1 hI.1 q 0 (mn_w_at hq) rfl hin hd (kk o h' hr G hG p l e R s m args below meth c H locs cells slots ls ad hC hR hI hl)
theorem ev_zaload {q cnt : Nat} {f : Nat → Int32} {i : Int32} (hq : h[q]? = some (.inl (1, cnt, .inl f))) (hin : vp_in i cnt) (hd : decode M.2.1 pc = .ok (.baload, 1))
    (kk : Ev sc d w k n M (pc + 1) lo (.int (f i.toNatClampNeg) :: st) h r) : Ev sc d w k n M pc lo (.int i :: .ref q :: st) h r := by
  intro o h' hr G hG p l e R s m args below meth c H locs cells slots ls ad hC hR hI hl
  exact va_zald hC.1 hC.2.1 hC.2.2.2.2.2.2.2.1 hI.1 q 1 (mn_w_at hq) rfl hin hd (kk o h' hr G hG p l e R s m args below meth c H locs cells slots ls ad hC hR hI hl)
theorem ev_laload {q cnt : Nat} {f : Nat → Int64} {i : Int32} (hq : h[q]? = some (.inl (2, cnt, .inr (.inl f)))) (hin : vp_in i cnt) (hd : decode M.2.1 pc = .ok (.laload, 1))
    (kk : Ev sc d w k n M (pc + 1) lo (.long (f i.toNatClampNeg) :: st) h r) : Ev sc d w k n M pc lo (.int i :: .ref q :: st) h r := by
  intro o h' hr G hG p l e R s m args below meth c H locs cells slots ls ad hC hR hI hl
  exact va_lald hC.1 hC.2.1 hC.2.2.2.2.2.2.2.1 hI.1 q 2 (mn_w_at hq) rfl hin hd (kk o h' hr G hG p l e R s m args below meth c H locs cells slots ls ad hC hR hI hl)
theorem mn_set_inl {dA : Nat → ClassId} {ad : Nat → Nat} {h : List mn_E} {q t : Nat} {a : vp_A} : (mn_w dA ad h).set q (ad q, .inl (dA t, a)) = mn_w dA ad (h.set q (.inl (t, a))) := mn_w_set (e := .inl (t, a))
theorem ev_iastore {q cnt : Nat} {f : Nat → Int32} {i x : Int32} {h2 : List mn_E} (hq : h[q]? = some (.inl (0, cnt, .inl f))) (hin : vp_in i cnt) (h2e : h.set q (.inl (0, cnt, .inl (upd f i.toNatClampNeg x))) = h2) (hd : decode M.2.1 pc = .ok (.iastore, 1))
    (kk : Ev sc d w k n M (pc + 1) lo st h2 r) : Ev sc d w k n M pc lo (.int x :: .int i :: .ref q :: st) h r := by
  intro o h' hr G hG p l e R s m args below meth c H locs cells slots ls ad hC hR hI hl
  have hlen2 : h2.length = h.length := by rw [← h2e, List.length_set]
  refine va_iast hC.1 hC.2.1 hC.2.2.2.2.2.2.2.1 hI.1 hI.2.1 hI.2.2.1 q 0 (mn_w_at hq) rfl hin hd (fun H1 locs1 hP hD hS => ?_)
  rw [mn_set_inl, h2e] at hP hD
  have h9 := kk o h' hr G hG p l e R s m args below meth c H1 locs1 cells slots ls ad hC hR (mn_I_put hC hI hP hD hS) hl
  unfold mn_Q at h9 ⊢
  rw [hlen2] at h9
  exact h9
theorem ev_zastore {q cnt : Nat} {f : Nat → Int32} {i x : Int32} {h2 : List mn_E} (hq : h[q]? = some (.inl (1, cnt, .inl f))) (hin : vp_in i cnt) (h2e : h.set q (.inl (1, cnt, .inl (upd f i.toNatClampNeg (vp_nar .boolean x)))) = h2) (hd : decode M.2.1 pc = .ok (.bastore, 1))
    (kk : Ev sc d w k n M (pc + 1) lo st h2 r) : Ev sc d w k n M pc lo (.int x :: .int i :: .ref q :: st) h r := by
  intro o h' hr G hG p l e R s m args below meth c H locs cells slots ls ad hC hR hI hl
  have hlen2 : h2.length = h.length := by rw [← h2e, List.length_set]
  refine va_zast hC.1 hC.2.1 hC.2.2.2.2.2.2.2.1 hI.1 hI.2.1 hI.2.2.1 q 1 (mn_w_at hq) rfl hin hd (fun H1 locs1 hP hD hS => ?_)
  rw [mn_set_inl, h2e] at hP hD
  have h9 := kk o h' hr G hG p l e R s m args below meth c H1 locs1 cells slots ls ad hC hR (mn_I_put hC hI hP hD hS) hl
  unfold mn_Q at h9 ⊢
  rw [hlen2] at h9
  exact h9
theorem ev_lastore {q cnt : Nat} {f : Nat → Int64} {i : Int32} {x : Int64} {h2 : List mn_E} (hq : h[q]? = some (.inl (2, cnt, .inr (.inl f)))) (hin : vp_in i cnt) (h2e : h.set q (.inl (2, cnt, .inr (.inl (vp_updL f i.toNatClampNeg x)))) = h2) (hd : decode M.2.1 pc = .ok (.lastore, 1))
    (kk : Ev sc d w k n M (pc + 1) lo st h2 r) : Ev sc d w k n M pc lo (.long x :: .int i :: .ref q :: st) h r := by
  intro o h' hr G hG p l e R s m args below meth c H locs cells slots ls ad hC hR hI hl
  have hlen2 : h2.length = h.length := by rw [← h2e, List.length_set]
  refine va_last hC.1 hC.2.1 hC.2.2.2.2.2.2.2.1 hI.1 hI.2.1 hI.2.2.1 q 2 (mn_w_at hq) rfl hin hd (fun H1 locs1 hP hD hS => ?_)
  rw [mn_set_inl, h2e] at hP hD
  have h9 := kk o h' hr G hG p l e R s m args below meth c H1 locs1 cells slots ls ad hC hR (mn_I_put hC hI hP hD hS) hl
  unfold mn_Q at h9 ⊢
  rw [hlen2] at h9
  exact h9
theorem ev_alen {q t : Nat} {a : vp_A} {ty : FieldType} (hq : h[q]? = some (.inl (t, a))) (ht : t < 3) {v : Int32} (hv : Int32.ofNat a.1 = v) (hd : decode M.2.1 pc = .ok (.arraylength, 1))
    (kk : Ev sc d w k n M (pc + 1) lo (.int v :: st) h r) : Ev sc d w k n M pc lo (.ref q :: st) h r := by
  intro o h' hr G hG p l e R s m args below meth c H locs cells slots ls ad hC hR hI hl
  have h9 := kk o h' hr G hG p l e R s m args below meth c H locs cells slots ls ad hC hR hI hl
  rcases (show t = 0 ∨ t = 1 ∨ t = 2 by omega) with rfl | rfl | rfl
  · exact va_alen hC.1 hC.2.1 hC.2.2.2.2.2.2.2.1 hI.1 q 0 (mn_w_at hq) (ty := .int) rfl hv hd h9
  · exact va_alen hC.1 hC.2.1 hC.2.2.2.2.2.2.2.1 hI.1 q 1 (mn_w_at hq) (ty := .boolean) rfl hv hd h9
  · exact va_alen hC.1 hC.2.1 hC.2.2.2.2.2.2.2.1 hI.1 q 2 (mn_w_at hq) (ty := .long) rfl hv hd h9
/-- answers -/
theorem ev_zret {v : Int32} {ty : FieldType} (hr0 : M.2.2.2.1 = some ty) (hn : narrow ty (.int v) = .int v) (hd : decode M.2.1 pc = .ok (.ireturn, 1)) : Ev sc d w 0 0 M pc lo [.int v] h (some (.inl (some (.int v)), h)) := by
  intro o h' hr G hG p l e R s m args below meth c H locs cells slots ls ad hC hR hI hl
  cases hr
  have hlocks : meth.locks = false := hC.2.2.2.2.2.2.1
  refine mn_W_mono ?_ (W.zret (Qc := fun _ s' oc t => oc = .returned (some (.int v)) ∧ t.heap = H) (free := fun q => G.2.2.1 ≤ q) hC.1 hC.2.1 (by rw [hC.2.2.2.1]; exact hr0) hn (fun t ht hW => ⟨rfl, ht⟩) hI.2.2.1.2.2 hd hlocks)
  rintro t ⟨oc, h1, h2, ⟨rfl, h3⟩, L, ⟨-, h4, h5⟩, h6⟩
  refine ⟨_, ad, L, h1, h2, rfl, Nat.le_refl _, fun _ _ => rfl, ?_, h4, h5⟩
  rw [h3]
  exact ⟨hI.1, hI.2.1, ⟨hI.2.2.1.1, hI.2.2.1.2.1, h6⟩, hI.2.2.2⟩
theorem ev_vret (hr0 : M.2.2.2.1 = none) (hd : decode M.2.1 pc = .ok (.return_, 1)) : Ev sc d w 0 0 M pc lo [] h (some (.inl none, h)) := by
  intro o h' hr G hG p l e R s m args below meth c H locs cells slots ls ad hC hR hI hl
  cases hr
  have hlocks : meth.locks = false := hC.2.2.2.2.2.2.1
  refine mn_W_mono ?_ (W.vret (Qc := fun _ s' oc t => oc = .returned none ∧ t.heap = H) (free := fun q => G.2.2.1 ≤ q) hC.1 hC.2.1 (by rw [hC.2.2.2.1]; exact hr0) (fun t ht hW => ⟨rfl, ht⟩) hI.2.2.1.2.2 hd hlocks)
  rintro t ⟨oc, h1, h2, ⟨rfl, h3⟩, L, ⟨-, h4, h5⟩, h6⟩
  refine ⟨_, ad, L, h1, h2, rfl, Nat.le_refl _, fun _ _ => rfl, ?_, h4, h5⟩
  rw [h3]
  exact ⟨hI.1, hI.2.1, ⟨hI.2.2.1.1, hI.2.2.1.2.1, h6⟩, hI.2.2.2⟩
theorem ev_lret {v : Int64} (hr0 : M.2.2.2.1 = some .long) (hd : decode M.2.1 pc = .ok (.lreturn, 1)) : Ev sc d w 0 0 M pc lo [.long v] h (some (.inl (some (.long v)), h)) := by
  intro o h' hr G hG p l e R s m args below meth c H locs cells slots ls ad hC hR hI hl
  cases hr
  have hlocks : meth.locks = false := hC.2.2.2.2.2.2.1
  refine mn_W_mono ?_ (W.lret (Qc := fun _ s' oc t => oc = .returned (some (.long v)) ∧ t.heap = H) (free := fun q => G.2.2.1 ≤ q) hC.1 hC.2.1 (by rw [hC.2.2.2.1]; exact hr0) (fun t ht hW => ⟨rfl, ht⟩) hI.2.2.1.2.2 hd)
  rintro t ⟨oc, h1, h2, ⟨rfl, h3⟩, L, ⟨-, h4, h5⟩, h6⟩
  refine ⟨_, ad, L, h1, h2, rfl, Nat.le_refl _, fun _ _ => rfl, ?_, h4, h5⟩
  rw [h3]
  exact ⟨hI.1, hI.2.1, ⟨hI.2.2.1.1, hI.2.2.1.2.1, h6⟩, hI.2.2.2⟩
end EH
