/-! what is made: objects, arrays; Object's constructor; copying -/
section MK
variable {sc : Nat × (Nat → Int32)} {d w k n : Nat} {M : mn_M} {pc : Nat} {lo : List (Nat × Value)} {st : List Value} {h : List mn_E} {r : mn_R}
def mn_nr (v : Value) : Bool := match v with
  | .ref _ => false
  | _ => true
theorem mn_map_nr {ad : Nat → Nat} {fs : List Value} (h : fs.all mn_nr = true) : fs.map (mn_v ad) = fs := by
  have : ∀ v ∈ fs, mn_v ad v = id v := fun v hv => by
    have h1 := List.all_eq_true.mp h v hv
    cases v <;> first | rfl | (simp [mn_nr] at h1)
  rw [List.map_congr_left this, List.map_id]
/-- a new entry at the world's end -/
theorem mn_grow {G : mn_G} {M : mn_M} {p : Program} {l : Launch} {e : Env} {R : Room} {s : State} {m : MethodId} {args : Array Value} {below : List Frame} {meth : Method} {c : Code} {H1 : Heap} {locs : List Loc} {cells' slots' : Nat} {ls : Array Slot} {ad : Nat → Nat} {o : mn_O} {h' : List mn_E} {q pcn : Nat} {en : mn_E} {k2 n2 : Nat}
    (hr : r = some (o, h')) (hG : G.2.2.2.2 = sc) (hC : mn_C G M p e s m args meth c) (hR : mn_rm d w k2 n2 R cells' slots') (hI : ∃ H, mn_I G ad h s H locs) (hl : lv_has ls M.2.2.1 (mn_lo ad lo))
    (hok : h.all (mn_eok h.length) = true) (hlo : lo.all (fun q => mn_vok h.length q.2) = true) (hst : st.all (mn_vok h.length) = true) (hns : h.length < mn_scr)
    (hP : va_P G.1 gd_cl (mn_w G.2.1 ad h ++ [(q, mn_e G.2.1 (va_up ad h.length q) en)]) H1) (hD : va_D (fun q => G.2.2.1 ≤ q) (mn_w G.2.1 ad h ++ [(q, mn_e G.2.1 (va_up ad h.length q) en)])) (hS : va_S (fun q => G.2.2.1 ≤ q) s.heap H1 locs)
    (kk : Ev sc d w k2 n2 M pcn lo (.ref h.length :: st) (h ++ [en]) r) :
    W p l e R s m args below meth c H1 locs cells' slots' (mn_Q G s below ad h o h' (cells' + k2 + mn_xk o) (slots' + n2 + 6 * mn_xk o)) (F0 m pcn ls (.ref q :: st.map (mn_v ad))) := by
  obtain ⟨H, hI⟩ := hI
  rw [← mn_w_up hok] at hP hD
  have hsc : va_up ad h.length q mn_scr = G.2.2.2.1 := by rw [va_up_ne _ _ (by omega)]; exact hI.2.2.2.2
  have hI2 : mn_I G (va_up ad h.length q) (h ++ [en]) s H1 locs := by
    have hb : G.2.2.2.1 < G.2.2.1 := hC.2.2.2.2.2.2.2.2.2.2.2.1
    have hs : G.2.2.1 ≤ s.heap.size := hC.2.2.2.2.2.2.2.2.1
    exact ⟨hP, hD, hS, mn_X_kept hI.2.2.1 hS (by omega) (by omega) hI.2.2.2.1, hsc⟩
  have hgo := kk o h' hr G hG p l e R s m args below meth c H1 locs cells' slots' ls (va_up ad h.length q) hC hR hI2 (by rw [mn_lo_up hlo]; exact hl)
  refine mn_W_mono ?_ (W.eq ?_ hgo)
  · rintro t ⟨oc, ad', locs', q1, q2, q3, q4, q5, q6, q7, q8⟩
    rw [List.length_append] at q4 q5
    have q4' : h.length + 1 ≤ h'.length := q4
    refine ⟨oc, ad', locs', q1, q2, q3, by omega, fun i hi => ?_, q6, q7, q8⟩
    rw [q5 i (by simp only [List.length_cons, List.length_nil]; omega)]
    exact va_up_ne _ _ (by omega)
  · simp only [List.map_cons, mn_map_up hst, mn_v, va_up_self]
theorem ev_new {C : String} {T : u_T} {N ci index : Nat} {fs : List Value} (hin : ∀ w ∈ u_ws C T N, w ∈ gd_tb) (ty : Nat → FieldType) (hty : ∀ k, k < N → parseFieldDescriptor (T k).2.2.1 = some (ty k)) (w1 : Cond.classLink M.1.cls index C ∈ gd_tb) (w2 : Cond.instantiable C N ∈ gd_tb) (w3 : Cond.initialized C ∈ gd_tb) (hc : gd_cl[ci]? = some (C, T, N)) (hfs : ∀ j, j < N → defaultValue (ty j) = vp_V fs j) (hnr : fs.all mn_nr = true) (hd : decode M.2.1 pc = .ok (.new index, 3))
    (hok : h.all (mn_eok h.length) = true) (hlo : lo.all (fun q => mn_vok h.length q.2) = true) (hst : st.all (mn_vok h.length) = true) (hns : h.length < mn_scr)
    (kk : Ev sc d w k n M (pc + 3) lo (.ref h.length :: st) (h ++ [.inr (ci, fs)]) r) : Ev sc d w (k + 1) (n + N) M pc lo st h r := by
  intro o h' hr G hG p l e R s m args below meth c H locs cells slots ls ad hC hR hI hl
  refine va_new (D := G.1) (ci := ci) (fs := fs) hC.1 hC.2.1 hC.2.2.2.2.2.1 hin ty hty hC.2.2.2.2.1 (hC.2.2.2.2.2.1 _ w1) (hC.2.2.2.2.2.1 _ w2) (hC.2.2.2.2.2.1 _ w3) hC.2.2.2.2.2.2.2.1 hI.1 hI.2.1 hI.2.2.1 (fun q hq => Nat.le_trans hC.2.2.2.2.2.2.2.2.1 hq) hc hfs (by have := hR.2.2.1; omega) (by have := hR.2.2.2; omega) hd (fun q H1 hP hD hS => ?_)
  have hme : mn_e G.2.1 (va_up ad h.length q) (.inr (ci, fs)) = .inr (ci, fs) := by simp only [mn_e]; rw [mn_map_nr hnr]
  have h9 := mn_grow (q := q) (en := .inr (ci, fs)) (below := below) (l := l) (cells' := cells + 1) (slots' := slots + N) hr hG hC ⟨hR.1, hR.2.1, by have := hR.2.2.1; omega, by have := hR.2.2.2; omega⟩ ⟨H, hI⟩ hl hok hlo hst hns (by rw [hme]; exact hP) (by rw [hme]; exact hD) hS kk
  have e1 : cells + 1 + k + mn_xk o = cells + (k + 1) + mn_xk o := by omega
  have e2 : slots + N + n + 6 * mn_xk o = slots + (n + N) + 6 * mn_xk o := by omega
  rw [e1, e2] at h9
  exact h9
/-- the three array types -/
def mn_at (t : Nat) : FieldType := match t with
  | 0 => .int
  | 1 => .boolean
  | _ => .long
theorem mn_dA_eq {G : mn_G} {s : State} {t : Nat} (ht : t < 3) {cA : ClassId} (hK : va_K G.1 gd_cl (mn_ty G) s) (hK2 : va_K G.1 gd_cl (mn_ty G ++ [(cA, mn_at t)]) s) : cA = G.2.1 t := by
  have h2 := (hK2.2 3 (cA, mn_at t) rfl).2
  rcases (show t = 0 ∨ t = 1 ∨ t = 2 by omega) with rfl | rfl | rfl
  · have h1 := (hK.2 0 (G.2.1 0, .int) rfl).2
    exact Option.some.inj ((show s.vm.findClass ("[" ++ FieldType.int.toString) = some cA from h2).symm.trans h1)
  · have h1 := (hK.2 1 (G.2.1 1, .boolean) rfl).2
    exact Option.some.inj ((show s.vm.findClass ("[" ++ FieldType.boolean.toString) = some cA from h2).symm.trans h1)
  · have h1 := (hK.2 2 (G.2.1 2, .long) rfl).2
    exact Option.some.inj ((show s.vm.findClass ("[" ++ FieldType.long.toString) = some cA from h2).symm.trans h1)
theorem ev_newa {t N : Nat} {x : Int32} {atype : ArrayType} {a0 : vp_A} (ht : t < 3) (hty : newarray.typeOf atype = mn_at t) (w1 : Cond.arrayClass (newarray.typeOf atype) ∈ gd_tb) (ha : ∀ cA : ClassId, vp_cell cA a0 = arrV cA N (fun _ => defaultValue (mn_at t))) (hx : ¬ x < 0) (hN : x.toNatClampNeg = N) (hb : N * componentBytes (mn_at t) ≤ 536870912) (hd : decode M.2.1 pc = .ok (.newarray atype, 2))
    (hok : h.all (mn_eok h.length) = true) (hlo : lo.all (fun q => mn_vok h.length q.2) = true) (hst : st.all (mn_vok h.length) = true) (hns : h.length < mn_scr)
    (kk : Ev sc d w k n M (pc + 2) lo (.ref h.length :: st) (h ++ [.inl (t, a0)]) r) : Ev sc d w (k + 1) (n + N) M pc lo (.int x :: st) h r := by
  intro o h' hr G hG p l e R s m args below meth c H locs cells slots ls ad hC hR hI hl
  refine va_newa (D := G.1) (a0 := a0) (N' := N) hC.1 hC.2.1 (hC.2.2.2.2.2.1 _ w1) hty hC.2.2.2.2.2.2.2.1 hI.1 hI.2.1 hI.2.2.1 (fun q hq => Nat.le_trans hC.2.2.2.2.2.2.2.2.1 hq) ha hx hN hb (by have := hR.2.2.1; omega) (by have := hR.2.2.2; omega) hd (fun q cA H1 hK2 hP hD hS => ?_)
  have hcA := mn_dA_eq ht hC.2.2.2.2.2.2.2.1 hK2
  subst hcA
  have h9 := mn_grow (q := q) (en := .inl (t, a0)) (below := below) (l := l) (cells' := cells + 1) (slots' := slots + N) hr hG hC ⟨hR.1, hR.2.1, by have := hR.2.2.1; omega, by have := hR.2.2.2; omega⟩ ⟨H, hI⟩ hl hok hlo hst hns hP hD hS kk
  have e1 : cells + 1 + k + mn_xk o = cells + (k + 1) + mn_xk o := by omega
  have e2 : slots + N + n + 6 * mn_xk o = slots + (n + N) + 6 * mn_xk o := by omega
  rw [e1, e2] at h9
  exact h9
theorem ev_objInit {index q : Nat} (w1 : Cond.methodLink M.1.cls index Lib.objectInit ∈ gd_tb) (w2 : Cond.instanceMethod Lib.objectInit ∈ gd_tb) (w3 : Cond.code Lib.objectInit ⟨#[0xb1]⟩ 1 none ∈ gd_tb) (hd : decode M.2.1 pc = .ok (.invokespecial index, 3)) (hd1 : 1 ≤ d) (hw1 : (st.map fun v => v.category).sum + 12 ≤ w)
    (kk : Ev sc d w k n M (pc + 3) lo st h r) : Ev sc d w k n M pc lo (.ref q :: st) h r := by
  intro o h' hr G hG p l e R s m args below meth c H locs cells slots ls ad hC hR hI hl
  refine W.objInit hC.1 hC.2.1 hC.2.2.2.2.1 (hC.2.2.2.2.2.1 _ w1) (hC.2.2.2.2.2.1 _ w2) (hC.2.2.2.2.2.1 _ w3) rfl (by rw [hC.2.2.1]; exact hl.1) (a := ad q) (rest := st.map (mn_v ad)) rfl hd (Nat.le_trans hd1 hR.1) ?_ (kk o h' hr G hG p l e R s m args below meth c H locs cells slots ls ad hC hR hI hl)
  show 2 * 0 + ((st.map (mn_v ad)).map fun v => v.category).sum + 12 ≤ R.locals
  rw [mn_v_cats]
  have := hR.2.1
  omega
theorem ev_copyi {index q0 q1 n0 n1 : Nat} {f g : Nat → Int32} {sp dp len : Int32} {h2 : List mn_E} (w1 : Cond.methodLink M.1.cls index arraycopyName ∈ gd_tb) (w2 : Cond.native arraycopyName ∈ gd_tb) (w3 : Cond.static arraycopyName ∈ gd_tb) (w4 : Cond.initialized "java/lang/System" ∈ gd_tb) (h0 : h[q0]? = some (.inl (0, n0, .inl f))) (h1 : h[q1]? = some (.inl (0, n1, .inl g)))
    (c1 : ¬ sp < 0) (c2 : ¬ dp < 0) (c3 : ¬ len < 0) (c4 : sp.toNatClampNeg + len.toNatClampNeg ≤ n0) (c5 : dp.toNatClampNeg + len.toNatClampNeg ≤ n1) (h2e : h.set q1 (.inl (0, n1, .inl (va_cpy f g sp.toNatClampNeg dp.toNatClampNeg len.toNatClampNeg))) = h2) (hd1 : 1 ≤ d) (hw1 : (st.map fun v => v.category).sum + (nativeFrameWords "java/lang/System" "arraycopy" 5 + 11) ≤ w) (hd : decode M.2.1 pc = .ok (.invokestatic index, 3))
    (kk : Ev sc d w k n M (pc + 3) lo st h2 r) : Ev sc d w k n M pc lo (.int len :: .int dp :: .ref q1 :: .int sp :: .ref q0 :: st) h r := by
  intro o h' hr G hG p l e R s m args below meth c H locs cells slots ls ad hC hR hI hl
  have hlen2 : h2.length = h.length := by rw [← h2e, List.length_set]
  refine va_copyi hC.1 hC.2.1 (by rw [hC.2.2.1]; exact hl.1.symm) hC.2.2.2.2.1 (hC.2.2.2.2.2.1 _ w1) (hC.2.2.2.2.2.1 _ w2) (hC.2.2.2.2.2.1 _ w3) (hC.2.2.2.2.2.1 _ w4) hC.2.2.2.2.2.2.2.1 hI.1 hI.2.1 hI.2.2.1 q0 q1 0 0 (mn_w_at h0) (mn_w_at h1) rfl rfl rfl c1 c2 c3 c4 c5 (fun _ _ => rfl) (Nat.le_trans hd1 hR.1) (by rw [mn_v_cats]; exact Nat.le_trans hw1 hR.2.1) hd (fun H1 locs1 hP hD hS => ?_)
  rw [mn_set_inl, h2e] at hP hD
  have h9 := kk o h' hr G hG p l e R s m args below meth c H1 locs1 cells slots ls ad hC hR (mn_I_put hC hI hP hD hS) hl
  unfold mn_Q at h9 ⊢
  rw [hlen2] at h9
  exact h9
/-- the script -/
theorem mn_scr_A {G : mn_G} {M : mn_M} {p : Program} {e : Env} {s : State} {m : MethodId} {args : Array Value} {meth : Method} {c : Code} (hC : mn_C G M p e s m args meth c) : G.2.2.2.1 < s.heap.size ∧ ¬ (G.2.2.1 ≤ G.2.2.2.1) := by
  have hb : G.2.2.2.1 < G.2.2.1 := hC.2.2.2.2.2.2.2.2.2.2.2.1
  have hs : G.2.2.1 ≤ s.heap.size := hC.2.2.2.2.2.2.2.2.1
  exact ⟨by omega, by omega⟩
theorem ev_sld {i : Int32} (hi : vp_in i sc.1) (hd : decode M.2.1 pc = .ok (.iaload, 1)) (kk : Ev sc d w k n M (pc + 1) lo (.int (sc.2 i.toNatClampNeg) :: st) h r) : Ev sc d w k n M pc lo (.int i :: .ref mn_scr :: st) h r := by
  intro o h' hr G hG p l e R s m args below meth c H locs cells slots ls ad hC hR hI hl
  have h9 := kk o h' hr G hG p l e R s m args below meth c H locs cells slots ls ad hC hR hI hl
  subst hG
  have hX : va_X G.2.2.2.1 G.2.2.2.2.1 G.2.2.2.2.2 s s.heap := hI.2.2.2.1.kept (hI.2.2.1.2.1 _ (mn_scr_A hC).1 (mn_scr_A hC).2).symm
  have h8 := va_sld hC.1 hC.2.1 hX (mn_scr_A hC).1 (mn_scr_A hC).2 hI.2.2.1 hi hd h9
  rw [← hI.2.2.2.2] at h8
  exact h8
theorem ev_slen (hd : decode M.2.1 pc = .ok (.arraylength, 1)) (kk : Ev sc d w k n M (pc + 1) lo (.int (Int32.ofNat sc.1) :: st) h r) : Ev sc d w k n M pc lo (.ref mn_scr :: st) h r := by
  intro o h' hr G hG p l e R s m args below meth c H locs cells slots ls ad hC hR hI hl
  have h9 := kk o h' hr G hG p l e R s m args below meth c H locs cells slots ls ad hC hR hI hl
  subst hG
  have hX : va_X G.2.2.2.1 G.2.2.2.2.1 G.2.2.2.2.2 s s.heap := hI.2.2.2.1.kept (hI.2.2.1.2.1 _ (mn_scr_A hC).1 (mn_scr_A hC).2).symm
  have h8 := va_slen hC.1 hC.2.1 hX (mn_scr_A hC).1 (mn_scr_A hC).2 hI.2.2.1 hd h9
  rw [← hI.2.2.2.2] at h8
  exact h8
end MK
