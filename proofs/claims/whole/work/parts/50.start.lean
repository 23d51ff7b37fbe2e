def R_law : String := "LabelledVolumeLaw"
def lw_P (b : Addr) (xs : List Int32) (args : Array Value) (s : State) : Prop := args = #[.ref b] ∧ s.IntsAt b xs ∧ xs.length ≤ 2048 ∧ (Jvm.Cond.and given_1 narrow_1).before args s = true
def lw_Q (_ : Array Value) (s : State) (o : Outcome) (t : State) : Prop := o = .returned (some (.int 1)) ∧ Framed s o t [] 601024 7293034
def lw_Z (below : List Frame) (a : Array Value) (s : State) : State → Prop := fun t => ∃ o, t.status = .running ∧ Ended t below o ∧ lw_Q a s o t
/-- what holds at the law's entry: the machine, the code, the tables' words (any of lw_tbl by 'hts w (by decide +kernel)'), the script of L ints xs at the cell b, what the Statement gives of the start (any of its parts by flat_of_before) -/
def lw_At (p : Program) (s : State) (m : MethodId) (meth : Method) (c : Code) (b L : Nat) (xs : Nat → Int32) : Prop :=
  p.tables.exec = Jvm.exec ∧ c.code = code ∧ meth.sig.returnType = ret ∧ c.maxLocals = 7 ∧ s.vm.findClass R_law = some m.cls ∧ (∀ w ∈ lw_tbl, w.before #[Value.ref b] s = true) ∧ va_X b L xs s s.heap ∧ b < s.heap.size ∧ meth.locks = false ∧ (Jvm.Cond.and given_1 narrow_1).before #[Value.ref b] s = true
/-! from the entry to the end -/
theorem mn_arr {t : FieldType} {A : Array Value} {s : State} (h : (Cond.arrayClass t).before A s = true) : ∃ cA : ClassId, ArrOfT s cA t ∧ s.vm.findClass ("[" ++ t.toString) = some cA := by
  simp only [Cond.before, Cond.holds, Cond.value] at h
  cases hc : s.vm.findClass ("[" ++ t.toString) with
  | none => simp [hc] at h
  | some cA =>
    cases hk : s.vm.classes[cA]? with
    | none => simp [hc, hk] at h
    | some kA =>
      cases hkk : kA.kind with
      | array comp ty =>
        simp [hc, hk, hkk] at h
        subst h
        exact ⟨cA, fun n z => ⟨fun k h => (by cases h), kA, hk, comp, hkk⟩, rfl⟩
      | _ => simp [hc, hk, hkk] at h
theorem mn_ncq {a b : String} {A : Array Value} {s : State} (ha : (Cond.castable a a).before A s = true) (hb : (Cond.castable b b).before A s = true) (h : (Cond.not (Cond.castable a b)).before A s = true) : ∃ c1 c2 : ClassId, s.vm.findClass a = some c1 ∧ s.vm.findClass b = some c2 ∧ s.vm.assignable c1 c2 = false := by
  simp only [Cond.before, Cond.holds, Cond.value] at ha hb h
  cases h1 : s.vm.findClass a with
  | none => simp [h1] at ha
  | some c1 =>
    cases h2 : s.vm.findClass b with
    | none => simp [h2] at hb
    | some c2 =>
      simp [h1, h2] at h
      exact ⟨c1, c2, rfl, rfl, h⟩
theorem mn_nc_of {A : Array Value} {s : State} (hts : ∀ w ∈ gd_tb, w.before A s = true) (hn : (Jvm.Cond.and given_1 narrow_1).before A s = true) : mn_nc s := by
  have hs := flat_of_before _ hn
  intro q hq
  have h9 : (Cond.not (Cond.castable (gd_ex q.1) (gd_ex q.2))).before A s = true ∧ (1 ≤ q.1 ∧ q.1 ≤ 5) ∧ 1 ≤ q.2 ∧ q.2 ≤ 5 := by
    simp only [gd_nc, List.mem_cons, List.not_mem_nil, or_false] at hq
    rcases hq with rfl | rfl | rfl | rfl | rfl | rfl | rfl | rfl | rfl | rfl | rfl | rfl | rfl | rfl | rfl | rfl | rfl | rfl | rfl | rfl <;> exact ⟨hs _ (by decide +kernel), by decide⟩
  exact mn_ncq (hts _ (gd_cs _ h9.2.1.1 h9.2.1.2)) (hts _ (gd_cs _ h9.2.2.1 h9.2.2.2)) h9.1
def lw_pure : Prop := ∀ sc : Nat × (Nat → Int32), sc.1 ≤ 2048 → ∃ (r : RS) (z : DS × FS × WS × MS × SS × GS × RS × OS), f_Mod_init_147 rB = some ((), r) ∧ L_Law_law_23 sc 600 dF fB wB mB sB gB r (fun _ => 0) 0 = some (1, z)
theorem whole_startE (hpure : lw_pure) {p : Program} {e : Env} {s : State} {m : MethodId} {below : List Frame} {meth : Method} {c : Code} (l : Launch) {b L : Nat} {xs : Nat → Int32} (hL : L ≤ 2048) (C0 : lw_At p s m meth c b L xs) (htr : e.platform.stackTraces = false) (hex : c.exceptionTable.isEmpty = true) (hnm : meth.name = "law") : W p l e room_1 s m #[Value.ref b] below meth c s.heap [] 0 0 (lw_Z below #[Value.ref b] s) (entryFrame m ([Value.ref b] : List Value).toArray 7) := by
  obtain ⟨hx, hb, hr, hml, hown, hts, hX, hbl, hlk, hgv⟩ := C0
  have hs := flat_of_before _ hgv
  have htg : ∀ w ∈ gd_tb, w.before #[Value.ref b] s = true := fun w hw => hts w (List.mem_filter.mp hw).1
  obtain ⟨c0, i0, k0⟩ := u_known htg gi_LV (htg _ gw_119)
  obtain ⟨c1, i1, k1⟩ := u_known htg gi_Disk (htg _ gw_127)
  obtain ⟨c2, i2, k2⟩ := u_known htg gi_Finder (htg _ gw_157)
  obtain ⟨c3, i3, k3⟩ := u_known htg gi_Walk (htg _ gw_210)
  obtain ⟨c4, i4, k4⟩ := u_known htg gi_Map (htg _ gw_235)
  obtain ⟨c5, i5, k5⟩ := u_known htg gi_Scav (htg _ gw_263)
  obtain ⟨c6, i6, k6⟩ := u_known htg gi_Mod (htg _ gw_992)
  obtain ⟨a0, q0, r0⟩ := mn_arr (htg _ gw_154)
  obtain ⟨a1, q1, r1⟩ := mn_arr (htg _ gw_155)
  obtain ⟨a2, q2, r2⟩ := mn_arr (htg _ gw_1379)
  let G : mn_G := (((fun k => match k with | 0 => c0 | 1 => c1 | 2 => c2 | 3 => c3 | 4 => c4 | 5 => c5 | _ => c6), (fun k => match k with | 0 => i0 | 1 => i1 | 2 => i2 | 3 => i3 | 4 => i4 | 5 => i5 | _ => i6)), (fun k => match k with | 0 => a0 | 1 => a1 | _ => a2), s.heap.size, b, L, xs)
  have hK : va_K G.1 gd_cl (mn_ty G) s := by
    constructor
    · intro k q hq
      have hk7 : k < 7 := (List.getElem?_eq_some_iff.mp hq).1
      rcases (show k = 0 ∨ k = 1 ∨ k = 2 ∨ k = 3 ∨ k = 4 ∨ k = 5 ∨ k = 6 by omega) with rfl | rfl | rfl | rfl | rfl | rfl | rfl
      · cases hq; exact k0
      · cases hq; exact k1
      · cases hq; exact k2
      · cases hq; exact k3
      · cases hq; exact k4
      · cases hq; exact k5
      · cases hq; exact k6
    · intro k q hq
      have hk3 : k < 3 := (List.getElem?_eq_some_iff.mp hq).1
      rcases (show k = 0 ∨ k = 1 ∨ k = 2 by omega) with rfl | rfl | rfl
      · cases hq; exact ⟨q0, r0⟩
      · cases hq; exact ⟨q1, r1⟩
      · cases hq; exact ⟨q2, r2⟩
  have hT : mn_T G e s := ⟨htr, mn_sf_of (hts _ (List.mem_of_getElem? (i := 607) (by decide +kernel))) (hs _ (by decide +kernel)), mn_sf_of (hts _ (List.mem_of_getElem? (i := 609) (by decide +kernel))) (hs _ (by decide +kernel)), mn_nc_of htg hgv⟩
  have hE : c.exceptionTable.toList.map (fun x => (x.startPc, x.endPc, x.handlerPc, x.catchType)) = [] := by
    rw [Array.isEmpty_iff.mp hex]
    rfl
  have hC : mn_C G M_Law_law p e s m #[Value.ref b] meth c := ⟨hx, hb, hml, hr, hown, htg, hlk, hK, Nat.le_refl _, hE, hnm, hbl, hT⟩
  obtain ⟨r, z, hz, hw⟩ := hpure (L, xs) hL
  have h9 := k_law (sc := (L, xs)) 600 r hz (.inl (some (.int 1))) (Hlaw z) (by rw [hw]; rfl) G rfl p l e room_1 s m #[Value.ref b] below meth c s.heap [] 0 0 ((lg_sl [Value.ref b] ++ List.replicate (7 - (lg_sl [Value.ref b]).length) Slot.unset).toArray) (fun _ => b) hC ⟨by decide, by decide, by decide, by decide⟩ ⟨(fun k q hq => by cases hq), ⟨(fun i j p q hp => by cases hp), (fun k q hq => by cases hq)⟩, va_S.rf, hX, rfl⟩ (lv_entry [Value.ref b] (n := 7) (Nat.le_of_ble_eq_true rfl))
  rw [lg_entry_eq]
  refine mn_W_mono ?_ h9
  rintro t ⟨oc, ad', locs', q1, q2, q3, q4, q5, q6, q7, q8⟩
  refine ⟨oc, q1, q2, q3, ⟨_, q3⟩, q7, ?_⟩
  obtain ⟨e1, e2, e3, e4, e5, e6⟩ := q8.mono (show 0 + (600 + 31) + mn_xk (.inl (some (Value.int 1))) ≤ 601024 by decide) (show 0 + (6 * 600 + 5241) + 6 * mn_xk (.inl (some (Value.int 1))) ≤ 7293034 by decide)
  refine ⟨e1, e2, e3, e4, e5, fun a cc hcc => ?_⟩
  obtain ⟨c', f1, f2, f3, f4⟩ := e6 a cc hcc
  refine ⟨c', f1, f2, f3, fun i _ => f4 i (fun hin => ?_)⟩
  have g1 : s.heap.size ≤ a := q6.2.2.1.2.2 _ hin
  have g2 : a < s.heap.size := (Array.getElem?_eq_some_iff.mp hcc).1
  exact Nat.not_le.mpr g2 g1
set_option maxHeartbeats 4000000 in
theorem lw_walk (hpure : lw_pure) (l : Launch) (hfl : l.flags = flags0) (b : Addr) (xs : List Int32) : MetFree l x (headSpec (Jvm.Cond.code x code maxLocals ret :: tables_1) room_1) (lw_P b xs) (fun _ _ _ _ _ => True) lw_Q := by
  refine MetFree.of_bodyS (code := code) (maxLocals := maxLocals) (ret := ret) (by decide) ?_ ?_
  · intro args s m h hn
    obtain ⟨meth, c, h1, h2, h3, h4, h5, h6, -, -⟩ := Cond.code_spec hn (atoms_spec (ws := Jvm.Cond.code x code maxLocals ret :: tables_1) h _ List.mem_cons_self)
    exact ⟨meth, c, h1, h2, h3, h4, h5, h6⟩
  · intro p e s m args below meth c s₁ B hml0 hP _
    obtain ⟨rfl, hx, hbd, hgv⟩ := hP
    obtain ⟨scr, harrAt, hlist, hof, hsmall⟩ := hx
    obtain ⟨hcb, hkn, -, -⟩ := State.arrayAt?_spec harrAt
    have hown : s.vm.findClass R_law = some m.cls := findClass_of_methodNamed B.named
    have hts0 : ∀ c ∈ (Jvm.Cond.code x code maxLocals ret :: tables_1), c.before #[Value.ref b] s = true := atoms_spec (ws := Jvm.Cond.code x code maxLocals ret :: tables_1) B.pre
    have hts : ∀ w ∈ lw_tbl, w.before #[Value.ref b] s = true := k2_hts_sels lw_privs (fun w hw => hts0 w (List.mem_cons_of_mem _ hw)) lw_privs_ok
    have hml : c.maxLocals = 7 := B.maxLocals_eq (hts0 _ List.mem_cons_self)
    have X₀ : Stand p l e room_1 s m #[Value.ref b] below meth c s₁ [] 0 0 := Stand.of_body B
    have hh0 : s₁.heap = s.heap := by rw [B.state]; rfl
    have hsz : scr.slots.size = xs.length := by rw [← Array.length_toList, hlist, List.length_map]
    have hval : ∀ j : Nat, j < xs.length → scr.slots[j]? = some (.int (xs.getD j 0)) := fun j hj => by
      rw [← Array.getElem?_toList, hlist]
      simp [hj]
    have hbl : b < s.heap.size := (Array.getElem?_eq_some_iff.mp hcb).1
    have hX : va_X b xs.length (fun j => xs.getD j 0) s s.heap := ⟨scr, hcb, hof, hkn, hsz, hval⟩
    have K : W p l e room_1 s m #[Value.ref b] below meth c s₁.heap [] 0 0 (lw_Z below #[Value.ref b] s) (entryFrame m ([Value.ref b] : List Value).toArray 7) := by
      rw [hh0]
      have hcd := Cond.code_spec B.named (hts0 _ List.mem_cons_self)
      obtain ⟨meth', c', g1, g2, g3, g4, g5, g6, g7, g8⟩ := hcd
      cases B.method.symm.trans g1
      cases X₀.code.symm.trans g2
      exact whole_startE hpure l hbd ⟨B.exec, B.bytes, B.returns, hml, hown, hts, hX, hbl, B.notSynchronized, hgv⟩ (Launch.traces_off hfl B.admits) g7 (name_of_methodNamed B.named B.method).1
    obtain ⟨t, a1, o, b1, b2, b3⟩ := K s₁ rfl X₀
    exact ⟨t, o, a1, b1, b2, b3⟩
theorem lw_pre_spec {args : Array Value} {s : State} (h : (Jvm.Cond.and given_1 narrow_1).before args s = true) (hr : rest_1_c.before args s = true) : ∃ (b : Addr) (xs : List Int32), lw_P b xs args s := by
  have hs := flat_of_before _ h
  have hq := flat_of_before _ hr
  have hc : (Cond.count 1).before args s = true := hs _ (by decide +kernel)
  have harr : (Cond.arrayOf (.arg 0) .int).before args s = true := hs _ (by decide +kernel)
  have hle : (Cond.le (.length (.arg 0)) (.int 2048)).before args s = true := hs _ (by decide +kernel)
  have hlen : (Cond.isInt (.length (.arg 0))).before args s = true := hq _ (by decide +kernel)
  have hall : (Cond.all (.arg 0) (.isInt (.elem (.arg 0) (.index 0)))).before args s = true := hq _ (by decide +kernel)
  obtain ⟨b, xs, hb, hx⟩ := State.ints_of_pre rfl harr hlen hall
  have hsm : xs.length < 2 ^ 31 := hx.choose_spec.2.2.2
  have hev : (Term.length (.arg 0)).eval args s none [] s = some (.int xs.length.toInt32) := hx.length_eval hb
  have hv := Cond.le_ints hev (show (Term.int 2048).eval args s none [] s = some (.int 2048) from rfl)
  have hd : xs.length.toInt32 ≤ 2048 := by
    simpa [Cond.before, Cond.holds, hv] using hle
  have hN : xs.length ≤ 2048 := (Int32.ofNat_le_ofNat hsm (by decide)).mp (show Int32.ofNat xs.length ≤ Int32.ofNat 2048 from hd)
  exact ⟨b, xs, Cond.one_arg hc (show args[0]? = some (.ref b) from hb), hx, hN, h⟩
theorem lw_comes (hpure : lw_pure) (l : Launch) (hfl : l.flags = flags0) : Comes l x (Jvm.Cond.code x code maxLocals ret :: tables_1) room_1 (fun tb e args s => Calls_1 tb e args s ∧ rest_1 tb e args s ∧ Pre_1 tb e args s)
    (fun _ _ args s o t => lw_Q args s o t) := by
  intro p e ha hc hk s m args below hf hfit hheap happ hpre
  obtain ⟨b, xs, hP⟩ := lw_pre_spec hpre.2.2 hpre.2.1
  obtain ⟨k, o, h1, h2, h3, hQ⟩ := lw_walk hpure l hfl b xs p e ha hc hk s m args below hf ((Spec.applies_iff_loose hf).mp happ).1 hP trivial
  exact ⟨k, o, h1, h2, h3, hQ⟩
theorem lw_frame {s t : State} {o : Outcome} {args : Array Value} (h : Framed s o t [] 601024 7293034) :
    Framed s o t (fieldLocs frame_1_writes args s ++ arrayLocs frame_1_arrays args s ++ staticLocs frame_1_statics s) 601024 7293034 := h
theorem lw_limb (hpure : lw_pure) (L : Cond) (hL : ∀ (args : Array Value) (s t : State), L.after args s (.returned (some (.int 1))) t = true) :
    ArmFor flags0 classFile x code maxLocals ret World_1 tables_1 room_1 Calls_1 rest_1 Pre_1
      (fun tb e a s o t => postC L tb e a s o t ∧ Framed s o t (fieldLocs frame_1_writes a s ++ arrayLocs frame_1_arrays a s ++ staticLocs frame_1_statics s) 601024 7293034) := by
  intro l hfl _ _ p e ha hc hk s m args below hf hfit hheap happ hpre
  obtain ⟨k, o, h1, h2, h3, rfl, hF⟩ := lw_comes hpure l hfl p e ha hc hk s m args below hf hfit hheap happ hpre
  exact ⟨k, _, h1, h2, h3, hL args s _, lw_frame hF⟩
