def B_Law_law_948 (sc : Nat × (Nat → Int32)) (r23 : DS → FS → WS → MS → SS → GS → RS → OS → Int32 → Option (Int32 × (DS × FS × WS × MS × SS × GS × RS × OS))) (d : DS) (f : FS) (w : WS) (m : MS) (s : SS) (g : GS) (r : RS) (o : OS) (x4 : Int32) : Option (Int32 × (DS × FS × WS × MS × SS × GS × RS × OS)) :=
  r23 d f w m s g r o (x4 + 4)
theorem e_B_Law_law_948 {sc : Nat × (Nat → Int32)} {tl : List mn_E} {kk : Nat} (r23 : DS → FS → WS → MS → SS → GS → RS → OS → Int32 → Option (Int32 × (DS × FS × WS × MS × SS × GS × RS × OS))) (hr23 : ∀ (d : DS) (f : FS) (w : WS) (m : MS) (s : SS) (g : GS) (r : RS) (o : OS) (x4 : Int32), Ev sc 404 6259 kk (6 * kk) M_Law_law 23 [(0, .ref 1000000), (1, .ref 0), (2, .ref 12), (3, .ref 30), (4, .int x4)] [] (eLV :: (HD d (HF f (HW w (HM m (HS s (HG g (HR r (HO o tl))))))))) (mapR ouI (fun z => (eLV :: (HD z.1 (HF z.2.1 (HW z.2.2.1 (HM z.2.2.2.1 (HS z.2.2.2.2.1 (HG z.2.2.2.2.2.1 (HR z.2.2.2.2.2.2.1 (HO z.2.2.2.2.2.2.2 tl)))))))))) (r23 d f w m s g r o x4))) (d : DS) (f : FS) (w : WS) (m : MS) (s : SS) (g : GS) (r : RS) (o : OS) (x4 : Int32) : Ev sc 404 6259 (kk + 0) (6 * kk + 0) M_Law_law 948 [(0, .ref 1000000), (1, .ref 0), (2, .ref 12), (3, .ref 30), (4, .int x4)] [] (eLV :: (HD d (HF f (HW w (HM m (HS s (HG g (HR r (HO o tl))))))))) (mapR ouI (fun z => (eLV :: (HD z.1 (HF z.2.1 (HW z.2.2.1 (HM z.2.2.2.1 (HS z.2.2.2.2.1 (HG z.2.2.2.2.2.1 (HR z.2.2.2.2.2.2.1 (HO z.2.2.2.2.2.2.2 tl)))))))))) (B_Law_law_948 sc r23 d f w m s g r o x4)) := by
  unfold B_Law_law_948
  refine ev_iinc (v := (x4 + 4)) d_Law_law_948 rfl rfl (by decide) rfl ?_
  refine ev_goto (tgt := 23) d_Law_law_951 rfl ?_
  exact ev_pick [1, 2, 3, 4, 0] rfl (ev_widen (Nat.le_refl _) (Nat.le_refl _) (by omega) (by omega) (hr23 d f w m s g r o (x4 + 4)))
def B_Law_law_213 (sc : Nat × (Nat → Int32)) (r23 : DS → FS → WS → MS → SS → GS → RS → OS → Int32 → Option (Int32 × (DS × FS × WS × MS × SS × GS × RS × OS))) (d : DS) (f : FS) (w : WS) (m : MS) (s : SS) (g : GS) (r : RS) (o : OS) (x4 : Int32) : Option (Int32 × (DS × FS × WS × MS × SS × GS × RS × OS)) :=
  B_Law_law_948 sc r23 d f w m s g r o x4
theorem e_B_Law_law_213 {sc : Nat × (Nat → Int32)} {tl : List mn_E} {kk : Nat} (r23 : DS → FS → WS → MS → SS → GS → RS → OS → Int32 → Option (Int32 × (DS × FS × WS × MS × SS × GS × RS × OS))) (hr23 : ∀ (d : DS) (f : FS) (w : WS) (m : MS) (s : SS) (g : GS) (r : RS) (o : OS) (x4 : Int32), Ev sc 404 6259 kk (6 * kk) M_Law_law 23 [(0, .ref 1000000), (1, .ref 0), (2, .ref 12), (3, .ref 30), (4, .int x4)] [] (eLV :: (HD d (HF f (HW w (HM m (HS s (HG g (HR r (HO o tl))))))))) (mapR ouI (fun z => (eLV :: (HD z.1 (HF z.2.1 (HW z.2.2.1 (HM z.2.2.2.1 (HS z.2.2.2.2.1 (HG z.2.2.2.2.2.1 (HR z.2.2.2.2.2.2.1 (HO z.2.2.2.2.2.2.2 tl)))))))))) (r23 d f w m s g r o x4))) (d : DS) (f : FS) (w : WS) (m : MS) (s : SS) (g : GS) (r : RS) (o : OS) (x4 : Int32) : Ev sc 404 6259 (kk + 0) (6 * kk + 0) M_Law_law 213 [(0, .ref 1000000), (1, .ref 0), (2, .ref 12), (3, .ref 30), (4, .int x4)] [] (eLV :: (HD d (HF f (HW w (HM m (HS s (HG g (HR r (HO o tl))))))))) (mapR ouI (fun z => (eLV :: (HD z.1 (HF z.2.1 (HW z.2.2.1 (HM z.2.2.2.1 (HS z.2.2.2.2.1 (HG z.2.2.2.2.2.1 (HR z.2.2.2.2.2.2.1 (HO z.2.2.2.2.2.2.2 tl)))))))))) (B_Law_law_213 sc r23 d f w m s g r o x4)) := by
  unfold B_Law_law_213
  refine ev_goto (tgt := 948) d_Law_law_213 rfl ?_
  exact ev_pick [0, 1, 2, 3, 4] rfl (ev_widen (Nat.le_refl _) (Nat.le_refl _) (by omega) (by omega) (e_B_Law_law_948   r23 hr23 d f w m s g r o x4))
def B_Law_law_183 (sc : Nat × (Nat → Int32)) (r23 : DS → FS → WS → MS → SS → GS → RS → OS → Int32 → Option (Int32 × (DS × FS × WS × MS × SS × GS × RS × OS))) (d : DS) (f : FS) (w : WS) (m : MS) (s : SS) (g : GS) (r : RS) (o : OS) (x4 : Int32) (x5 : Int32) (t0 : Int32) : Option (Int32 × (DS × FS × WS × MS × SS × GS × RS × OS)) :=
  if ((f_Mod_thrown r).1) = x5 then (if ¬ x5 = 0 then (B_Law_law_213 sc r23 d f w m s g r o x4) else (if inB 0 1 then (if (lg_cmp (oOut o (0 : Int32).toNatClampNeg) t0.toInt64) = 0 then (B_Law_law_213 sc r23 d f w m s g r o x4) else (some (0, (d, f, w, m, s, g, r, o)))) else none)) else (some (0, (d, f, w, m, s, g, r, o)))
theorem e_B_Law_law_183 {sc : Nat × (Nat → Int32)} {tl : List mn_E} {kk : Nat} (r23 : DS → FS → WS → MS → SS → GS → RS → OS → Int32 → Option (Int32 × (DS × FS × WS × MS × SS × GS × RS × OS))) (hr23 : ∀ (d : DS) (f : FS) (w : WS) (m : MS) (s : SS) (g : GS) (r : RS) (o : OS) (x4 : Int32), Ev sc 404 6259 kk (6 * kk) M_Law_law 23 [(0, .ref 1000000), (1, .ref 0), (2, .ref 12), (3, .ref 30), (4, .int x4)] [] (eLV :: (HD d (HF f (HW w (HM m (HS s (HG g (HR r (HO o tl))))))))) (mapR ouI (fun z => (eLV :: (HD z.1 (HF z.2.1 (HW z.2.2.1 (HM z.2.2.2.1 (HS z.2.2.2.2.1 (HG z.2.2.2.2.2.1 (HR z.2.2.2.2.2.2.1 (HO z.2.2.2.2.2.2.2 tl)))))))))) (r23 d f w m s g r o x4))) (d : DS) (f : FS) (w : WS) (m : MS) (s : SS) (g : GS) (r : RS) (o : OS) (x4 : Int32) (x5 : Int32) (t0 : Int32) : Ev sc 404 6259 (kk + 0) (6 * kk + 0) M_Law_law 183 [(0, .ref 1000000), (1, .ref 0), (2, .ref 12), (3, .ref 30), (4, .int x4), (5, .int x5)] [.int t0] (eLV :: (HD d (HF f (HW w (HM m (HS s (HG g (HR r (HO o tl))))))))) (mapR ouI (fun z => (eLV :: (HD z.1 (HF z.2.1 (HW z.2.2.1 (HM z.2.2.2.1 (HS z.2.2.2.2.1 (HG z.2.2.2.2.2.1 (HR z.2.2.2.2.2.2.1 (HO z.2.2.2.2.2.2.2 tl)))))))))) (B_Law_law_183 sc r23 d f w m s g r o x4 x5 t0)) := by
  unfold B_Law_law_183
  refine ev_istore d_Law_law_183 (by decide) rfl ?_
  refine ev_aload_n d_Law_law_185 rfl rfl ?_
  refine ev_callr (Mc := M_Mod_thrown) (v := some (.int ((f_Mod_thrown r).1))) (h1 := (eLV :: (HD d (HF f (HW w (HM m (HS s (HG g (HR r (HO o tl)))))))))) (k1 := 0) (n1 := 0) (inv_V (q := 12) (av := []) (rest := []) rfl (ci := 6) rfl d_Law_law_186 gw_1092 gw_1093 gw_1094 mw_Mod_thrown nh_Mod_thrown pn_Mod_thrown rfl) d_Law_law_186 pl_Mod_thrown (Nat.le_of_ble_eq_true rfl) (Nat.le_of_ble_eq_true rfl) (Nat.le_of_ble_eq_true rfl) (Nat.zero_add _) (Nat.zero_add _) (e_f_Mod_thrown (tl := (HO o tl)) (d := d) (f := f) (w := w) (m := m) (s := s) (g := g)  r ) (Or.inl (len1 (lenHD (lenHF (lenHW (lenHM (lenHS (lenHG (lenHR (lenHO rfl)))))))))) ?_
  refine ev_iload d_Law_law_189 rfl ?_
  refine ev_icmp_eq (tgt := 196) d_Law_law_191 rfl (fun h1 => ?_) (fun h1 => ?_)
  · rw [if_pos h1]
    refine ev_iload d_Law_law_196 rfl ?_
    refine ev_if_ne (tgt := 213) d_Law_law_198 rfl (fun h2 => ?_) (fun h2 => ?_)
    · rw [if_pos h2]
      exact ev_pick [1, 2, 3, 4, 5] rfl (ev_widen (Nat.le_refl _) (Nat.le_refl _) (by omega) (by omega) (e_B_Law_law_213   r23 hr23 d f w m s g r o x4))
    · rw [if_neg h2]
      refine ev_aload_n d_Law_law_201 rfl rfl ?_
      refine ev_iconst (v := 0) d_Law_law_202 rfl ?_
      refine ev_inB (fun h3 => ?_)
      refine ev_laload rfl (inB_of h3) d_Law_law_203 ?_
      refine ev_iload d_Law_law_204 rfl ?_
      refine ev_i2l d_Law_law_206 ?_
      refine ev_lcmp d_Law_law_207 ?_
      refine ev_if_eq (tgt := 213) d_Law_law_208 rfl (fun h4 => ?_) (fun h4 => ?_)
      · rw [if_pos h4]
        exact ev_pick [1, 2, 3, 4, 5] rfl (ev_widen (Nat.le_refl _) (Nat.le_refl _) (by omega) (by omega) (e_B_Law_law_213   r23 hr23 d f w m s g r o x4))
      · rw [if_neg h4]
        refine ev_iconst (v := 0) d_Law_law_211 rfl ?_
        exact ev_widen (Nat.zero_le _) (Nat.zero_le _) (Nat.zero_le _) (Nat.zero_le _) (ev_zret (ty := .boolean) rfl rfl d_Law_law_212)
  · rw [if_neg h1]
    refine ev_iconst (v := 0) d_Law_law_194 rfl ?_
    exact ev_widen (Nat.zero_le _) (Nat.zero_le _) (Nat.zero_le _) (Nat.zero_le _) (ev_zret (ty := .boolean) rfl rfl d_Law_law_195)
def B_Law_law_180 (sc : Nat × (Nat → Int32)) (r23 : DS → FS → WS → MS → SS → GS → RS → OS → Int32 → Option (Int32 × (DS × FS × WS × MS × SS × GS × RS × OS))) (d : DS) (f : FS) (w : WS) (m : MS) (s : SS) (g : GS) (r : RS) (o : OS) (x4 : Int32) (x5 : Int32) (t1 : Int32) (t2 : Int32) (t3 : Int32) : Option (Int32 × (DS × FS × WS × MS × SS × GS × RS × OS)) :=
  bnd (f_Mod_create r t1 t2 t3) (fun q => B_Law_law_183 sc r23 d f w m s g q.2 o x4 x5 q.1)
theorem e_B_Law_law_180 {sc : Nat × (Nat → Int32)} {tl : List mn_E} {kk : Nat} (r23 : DS → FS → WS → MS → SS → GS → RS → OS → Int32 → Option (Int32 × (DS × FS × WS × MS × SS × GS × RS × OS))) (hr23 : ∀ (d : DS) (f : FS) (w : WS) (m : MS) (s : SS) (g : GS) (r : RS) (o : OS) (x4 : Int32), Ev sc 404 6259 kk (6 * kk) M_Law_law 23 [(0, .ref 1000000), (1, .ref 0), (2, .ref 12), (3, .ref 30), (4, .int x4)] [] (eLV :: (HD d (HF f (HW w (HM m (HS s (HG g (HR r (HO o tl))))))))) (mapR ouI (fun z => (eLV :: (HD z.1 (HF z.2.1 (HW z.2.2.1 (HM z.2.2.2.1 (HS z.2.2.2.2.1 (HG z.2.2.2.2.2.1 (HR z.2.2.2.2.2.2.1 (HO z.2.2.2.2.2.2.2 tl)))))))))) (r23 d f w m s g r o x4))) (d : DS) (f : FS) (w : WS) (m : MS) (s : SS) (g : GS) (r : RS) (o : OS) (x4 : Int32) (x5 : Int32) (t1 : Int32) (t2 : Int32) (t3 : Int32) : Ev sc 404 6259 (kk + 0) (6 * kk + 0) M_Law_law 180 [(0, .ref 1000000), (1, .ref 0), (2, .ref 12), (3, .ref 30), (4, .int x4), (5, .int x5)] [.int t3, .int t2, .int t1, .ref 12] (eLV :: (HD d (HF f (HW w (HM m (HS s (HG g (HR r (HO o tl))))))))) (mapR ouI (fun z => (eLV :: (HD z.1 (HF z.2.1 (HW z.2.2.1 (HM z.2.2.2.1 (HS z.2.2.2.2.1 (HG z.2.2.2.2.2.1 (HR z.2.2.2.2.2.2.1 (HO z.2.2.2.2.2.2.2 tl)))))))))) (B_Law_law_180 sc r23 d f w m s g r o x4 x5 t1 t2 t3)) := by
  unfold B_Law_law_180
  refine ev_callBK (k1 := 0) (n1 := 0) (rc := (f_Mod_create r t1 t2 t3)) (ou := ouI) (Hs := (fun z => (eLV :: (HD d (HF f (HW w (HM m (HS s (HG g (HR z (HO o tl))))))))))) (inv_V (q := 12) (av := [.int t1, .int t2, .int t3]) (rest := []) rfl (ci := 6) rfl d_Law_law_180 gw_1096 gw_1097 gw_1098 mw_Mod_create nh_Mod_create pn_Mod_create rfl) d_Law_law_180 pl_Mod_create (Nat.le_of_ble_eq_true rfl) (Nat.le_of_ble_eq_true rfl) (Nat.le_of_ble_eq_true rfl) (Nat.zero_add _) (Nat.zero_add _) (e_f_Mod_create (tl := (HO o tl)) (d := d) (f := f) (w := w) (m := m) (s := s) (g := g)  r t1 t2 t3) (fun _ => (len1 (lenHD (lenHF (lenHW (lenHM (lenHS (lenHG (lenHR (lenHO rfl)))))))))) (fun v z h1 => ⟨_, rfl, ?_⟩)
  exact ev_pick [0, 1, 2, 3, 4, 5] rfl (ev_widen (Nat.le_refl _) (Nat.le_refl _) (by omega) (by omega) (e_B_Law_law_183   r23 hr23 d f w m s g z o x4 x5 v))
def B_Law_law_151 (sc : Nat × (Nat → Int32)) (r23 : DS → FS → WS → MS → SS → GS → RS → OS → Int32 → Option (Int32 × (DS × FS × WS × MS × SS × GS × RS × OS))) (d : DS) (f : FS) (w : WS) (m : MS) (s : SS) (g : GS) (r : RS) (o : OS) (x4 : Int32) (t0 : Int32) : Option (Int32 × (DS × FS × WS × MS × SS × GS × RS × OS)) :=
  if inB (x4 + 1) sc.1 then (if inB (x4 + 2) sc.1 then (if inB (x4 + 3) sc.1 then (if (sc.2 (x4 + 3).toNatClampNeg) = 0 then (B_Law_law_180 sc r23 d f w m s g r o x4 t0 (sc.2 (x4 + 1).toNatClampNeg) (sc.2 (x4 + 2).toNatClampNeg) 0) else (B_Law_law_180 sc r23 d f w m s g r o x4 t0 (sc.2 (x4 + 1).toNatClampNeg) (sc.2 (x4 + 2).toNatClampNeg) 1)) else none) else none) else none
theorem e_B_Law_law_151 {sc : Nat × (Nat → Int32)} {tl : List mn_E} {kk : Nat} (r23 : DS → FS → WS → MS → SS → GS → RS → OS → Int32 → Option (Int32 × (DS × FS × WS × MS × SS × GS × RS × OS))) (hr23 : ∀ (d : DS) (f : FS) (w : WS) (m : MS) (s : SS) (g : GS) (r : RS) (o : OS) (x4 : Int32), Ev sc 404 6259 kk (6 * kk) M_Law_law 23 [(0, .ref 1000000), (1, .ref 0), (2, .ref 12), (3, .ref 30), (4, .int x4)] [] (eLV :: (HD d (HF f (HW w (HM m (HS s (HG g (HR r (HO o tl))))))))) (mapR ouI (fun z => (eLV :: (HD z.1 (HF z.2.1 (HW z.2.2.1 (HM z.2.2.2.1 (HS z.2.2.2.2.1 (HG z.2.2.2.2.2.1 (HR z.2.2.2.2.2.2.1 (HO z.2.2.2.2.2.2.2 tl)))))))))) (r23 d f w m s g r o x4))) (d : DS) (f : FS) (w : WS) (m : MS) (s : SS) (g : GS) (r : RS) (o : OS) (x4 : Int32) (t0 : Int32) : Ev sc 404 6259 (kk + 0) (6 * kk + 0) M_Law_law 151 [(0, .ref 1000000), (1, .ref 0), (2, .ref 12), (3, .ref 30), (4, .int x4)] [.int t0] (eLV :: (HD d (HF f (HW w (HM m (HS s (HG g (HR r (HO o tl))))))))) (mapR ouI (fun z => (eLV :: (HD z.1 (HF z.2.1 (HW z.2.2.1 (HM z.2.2.2.1 (HS z.2.2.2.2.1 (HG z.2.2.2.2.2.1 (HR z.2.2.2.2.2.2.1 (HO z.2.2.2.2.2.2.2 tl)))))))))) (B_Law_law_151 sc r23 d f w m s g r o x4 t0)) := by
  unfold B_Law_law_151
  refine ev_istore d_Law_law_151 (by decide) rfl ?_
  refine ev_aload_n d_Law_law_153 rfl rfl ?_
  refine ev_aload_n d_Law_law_154 rfl rfl ?_
  refine ev_iload d_Law_law_155 rfl ?_
  refine ev_iconst (v := 1) d_Law_law_157 rfl ?_
  refine ev_iadd d_Law_law_158 ?_
  refine ev_inB (fun h1 => ?_)
  refine ev_sld (inB_of h1) d_Law_law_159 ?_
  refine ev_aload_n d_Law_law_160 rfl rfl ?_
  refine ev_iload d_Law_law_161 rfl ?_
  refine ev_iconst (v := 2) d_Law_law_163 rfl ?_
  refine ev_iadd d_Law_law_164 ?_
  refine ev_inB (fun h2 => ?_)
  refine ev_sld (inB_of h2) d_Law_law_165 ?_
  refine ev_aload_n d_Law_law_166 rfl rfl ?_
  refine ev_iload d_Law_law_167 rfl ?_
  refine ev_iconst (v := 3) d_Law_law_169 rfl ?_
  refine ev_iadd d_Law_law_170 ?_
  refine ev_inB (fun h3 => ?_)
  refine ev_sld (inB_of h3) d_Law_law_171 ?_
  refine ev_if_eq (tgt := 179) d_Law_law_172 rfl (fun h4 => ?_) (fun h4 => ?_)
  · rw [if_pos h4]
    refine ev_iconst (v := 0) d_Law_law_179 rfl ?_
    exact ev_pick [1, 2, 3, 4, 5, 0] rfl (ev_widen (Nat.le_refl _) (Nat.le_refl _) (by omega) (by omega) (e_B_Law_law_180   r23 hr23 d f w m s g r o x4 t0 (sc.2 (x4 + 1).toNatClampNeg) (sc.2 (x4 + 2).toNatClampNeg) 0))
  · rw [if_neg h4]
    refine ev_iconst (v := 1) d_Law_law_175 rfl ?_
    refine ev_goto (tgt := 180) d_Law_law_176 rfl ?_
    exact ev_pick [1, 2, 3, 4, 5, 0] rfl (ev_widen (Nat.le_refl _) (Nat.le_refl _) (by omega) (by omega) (e_B_Law_law_180   r23 hr23 d f w m s g r o x4 t0 (sc.2 (x4 + 1).toNatClampNeg) (sc.2 (x4 + 2).toNatClampNeg) 1))
def B_Law_law_147 (sc : Nat × (Nat → Int32)) (r23 : DS → FS → WS → MS → SS → GS → RS → OS → Int32 → Option (Int32 × (DS × FS × WS × MS × SS × GS × RS × OS))) (d : DS) (f : FS) (w : WS) (m : MS) (s : SS) (g : GS) (r : RS) (o : OS) (x4 : Int32) (t1 : Int32) (t2 : Int32) (t3 : Int32) : Option (Int32 × (DS × FS × WS × MS × SS × GS × RS × OS)) :=
  bnd (f_Law_create d f w m s g r o t1 t2 t3) (fun q => B_Law_law_151 sc r23 q.2.1 q.2.2.1 q.2.2.2.1 q.2.2.2.2.1 s g r q.2.2.2.2.2 x4 q.1)
theorem e_B_Law_law_147 {sc : Nat × (Nat → Int32)} {tl : List mn_E} {kk : Nat} (r23 : DS → FS → WS → MS → SS → GS → RS → OS → Int32 → Option (Int32 × (DS × FS × WS × MS × SS × GS × RS × OS))) (hr23 : ∀ (d : DS) (f : FS) (w : WS) (m : MS) (s : SS) (g : GS) (r : RS) (o : OS) (x4 : Int32), Ev sc 404 6259 kk (6 * kk) M_Law_law 23 [(0, .ref 1000000), (1, .ref 0), (2, .ref 12), (3, .ref 30), (4, .int x4)] [] (eLV :: (HD d (HF f (HW w (HM m (HS s (HG g (HR r (HO o tl))))))))) (mapR ouI (fun z => (eLV :: (HD z.1 (HF z.2.1 (HW z.2.2.1 (HM z.2.2.2.1 (HS z.2.2.2.2.1 (HG z.2.2.2.2.2.1 (HR z.2.2.2.2.2.2.1 (HO z.2.2.2.2.2.2.2 tl)))))))))) (r23 d f w m s g r o x4))) (d : DS) (f : FS) (w : WS) (m : MS) (s : SS) (g : GS) (r : RS) (o : OS) (x4 : Int32) (t1 : Int32) (t2 : Int32) (t3 : Int32) : Ev sc 404 6259 (kk + 1) (6 * kk + 6) M_Law_law 147 [(0, .ref 1000000), (1, .ref 0), (2, .ref 12), (3, .ref 30), (4, .int x4)] [.int t3, .int t2, .int t1, .ref 0] (eLV :: (HD d (HF f (HW w (HM m (HS s (HG g (HR r (HO o tl))))))))) (mapR ouI (fun z => (eLV :: (HD z.1 (HF z.2.1 (HW z.2.2.1 (HM z.2.2.2.1 (HS z.2.2.2.2.1 (HG z.2.2.2.2.2.1 (HR z.2.2.2.2.2.2.1 (HO z.2.2.2.2.2.2.2 tl)))))))))) (B_Law_law_147 sc r23 d f w m s g r o x4 t1 t2 t3)) := by
  unfold B_Law_law_147
  refine ev_aload_n d_Law_law_147 rfl rfl ?_
  refine ev_callBK (k1 := 1) (n1 := 6) (k2 := kk) (n2 := 6 * kk) (rc := (f_Law_create d f w m s g r o t1 t2 t3)) (ou := ouI) (Hs := (fun z => (eLV :: (HD z.1 (HF z.2.1 (HW z.2.2.1 (HM z.2.2.2.1 (HS s (HG g (HR r (HO z.2.2.2.2 tl))))))))))) (inv_S (av := [.ref 0, .int t1, .int t2, .int t3, .ref 30]) (rest := []) d_Law_law_148 gw_565 gw_566 gw_101 mw_Law_create nh_Law_create pn_Law_create rfl) d_Law_law_148 pl_Law_create (Nat.le_of_ble_eq_true rfl) (Nat.le_of_ble_eq_true rfl) (Nat.le_of_ble_eq_true rfl) (by omega) (by omega) (e_f_Law_create (tl := tl)  d f w m s g r o t1 t2 t3) (fun _ => (len1 (lenHD (lenHF (lenHW (lenHM (lenHS (lenHG (lenHR (lenHO rfl)))))))))) (fun v z h1 => ⟨_, rfl, ?_⟩)
  exact ev_pick [0, 1, 2, 3, 4] rfl (ev_widen (Nat.le_refl _) (Nat.le_refl _) (by omega) (by omega) (e_B_Law_law_151   r23 hr23 z.1 z.2.1 z.2.2.1 z.2.2.2.1 s g r z.2.2.2.2 x4 v))
def B_Law_law_120 (sc : Nat × (Nat → Int32)) (r23 : DS → FS → WS → MS → SS → GS → RS → OS → Int32 → Option (Int32 × (DS × FS × WS × MS × SS × GS × RS × OS))) (d : DS) (f : FS) (w : WS) (m : MS) (s : SS) (g : GS) (r : RS) (o : OS) (x4 : Int32) : Option (Int32 × (DS × FS × WS × MS × SS × GS × RS × OS)) :=
  if inB (x4 + 1) sc.1 then (if inB (x4 + 2) sc.1 then (if inB (x4 + 3) sc.1 then (if (sc.2 (x4 + 3).toNatClampNeg) = 0 then (B_Law_law_147 sc r23 d f w m s g r o x4 (sc.2 (x4 + 1).toNatClampNeg) (sc.2 (x4 + 2).toNatClampNeg) 0) else (B_Law_law_147 sc r23 d f w m s g r o x4 (sc.2 (x4 + 1).toNatClampNeg) (sc.2 (x4 + 2).toNatClampNeg) 1)) else none) else none) else none
theorem e_B_Law_law_120 {sc : Nat × (Nat → Int32)} {tl : List mn_E} {kk : Nat} (r23 : DS → FS → WS → MS → SS → GS → RS → OS → Int32 → Option (Int32 × (DS × FS × WS × MS × SS × GS × RS × OS))) (hr23 : ∀ (d : DS) (f : FS) (w : WS) (m : MS) (s : SS) (g : GS) (r : RS) (o : OS) (x4 : Int32), Ev sc 404 6259 kk (6 * kk) M_Law_law 23 [(0, .ref 1000000), (1, .ref 0), (2, .ref 12), (3, .ref 30), (4, .int x4)] [] (eLV :: (HD d (HF f (HW w (HM m (HS s (HG g (HR r (HO o tl))))))))) (mapR ouI (fun z => (eLV :: (HD z.1 (HF z.2.1 (HW z.2.2.1 (HM z.2.2.2.1 (HS z.2.2.2.2.1 (HG z.2.2.2.2.2.1 (HR z.2.2.2.2.2.2.1 (HO z.2.2.2.2.2.2.2 tl)))))))))) (r23 d f w m s g r o x4))) (d : DS) (f : FS) (w : WS) (m : MS) (s : SS) (g : GS) (r : RS) (o : OS) (x4 : Int32) : Ev sc 404 6259 (kk + 1) (6 * kk + 6) M_Law_law 120 [(0, .ref 1000000), (1, .ref 0), (2, .ref 12), (3, .ref 30), (4, .int x4)] [] (eLV :: (HD d (HF f (HW w (HM m (HS s (HG g (HR r (HO o tl))))))))) (mapR ouI (fun z => (eLV :: (HD z.1 (HF z.2.1 (HW z.2.2.1 (HM z.2.2.2.1 (HS z.2.2.2.2.1 (HG z.2.2.2.2.2.1 (HR z.2.2.2.2.2.2.1 (HO z.2.2.2.2.2.2.2 tl)))))))))) (B_Law_law_120 sc r23 d f w m s g r o x4)) := by
  unfold B_Law_law_120
  refine ev_aload_n d_Law_law_120 rfl rfl ?_
  refine ev_aload_n d_Law_law_121 rfl rfl ?_
  refine ev_iload d_Law_law_122 rfl ?_
  refine ev_iconst (v := 1) d_Law_law_124 rfl ?_
  refine ev_iadd d_Law_law_125 ?_
  refine ev_inB (fun h1 => ?_)
  refine ev_sld (inB_of h1) d_Law_law_126 ?_
  refine ev_aload_n d_Law_law_127 rfl rfl ?_
  refine ev_iload d_Law_law_128 rfl ?_
  refine ev_iconst (v := 2) d_Law_law_130 rfl ?_
  refine ev_iadd d_Law_law_131 ?_
  refine ev_inB (fun h2 => ?_)
  refine ev_sld (inB_of h2) d_Law_law_132 ?_
  refine ev_aload_n d_Law_law_133 rfl rfl ?_
  refine ev_iload d_Law_law_134 rfl ?_
  refine ev_iconst (v := 3) d_Law_law_136 rfl ?_
  refine ev_iadd d_Law_law_137 ?_
  refine ev_inB (fun h3 => ?_)
  refine ev_sld (inB_of h3) d_Law_law_138 ?_
  refine ev_if_eq (tgt := 146) d_Law_law_139 rfl (fun h4 => ?_) (fun h4 => ?_)
  · rw [if_pos h4]
    refine ev_iconst (v := 0) d_Law_law_146 rfl ?_
    exact ev_pick [0, 1, 2, 3, 4] rfl (ev_widen (Nat.le_refl _) (Nat.le_refl _) (by omega) (by omega) (e_B_Law_law_147   r23 hr23 d f w m s g r o x4 (sc.2 (x4 + 1).toNatClampNeg) (sc.2 (x4 + 2).toNatClampNeg) 0))
  · rw [if_neg h4]
    refine ev_iconst (v := 1) d_Law_law_142 rfl ?_
    refine ev_goto (tgt := 147) d_Law_law_143 rfl ?_
    exact ev_pick [0, 1, 2, 3, 4] rfl (ev_widen (Nat.le_refl _) (Nat.le_refl _) (by omega) (by omega) (e_B_Law_law_147   r23 hr23 d f w m s g r o x4 (sc.2 (x4 + 1).toNatClampNeg) (sc.2 (x4 + 2).toNatClampNeg) 1))
def B_Law_law_281 (sc : Nat × (Nat → Int32)) (r23 : DS → FS → WS → MS → SS → GS → RS → OS → Int32 → Option (Int32 × (DS × FS × WS × MS × SS × GS × RS × OS))) (d : DS) (f : FS) (w : WS) (m : MS) (s : SS) (g : GS) (r : RS) (o : OS) (x4 : Int32) : Option (Int32 × (DS × FS × WS × MS × SS × GS × RS × OS)) :=
  B_Law_law_948 sc r23 d f w m s g r o x4
theorem e_B_Law_law_281 {sc : Nat × (Nat → Int32)} {tl : List mn_E} {kk : Nat} (r23 : DS → FS → WS → MS → SS → GS → RS → OS → Int32 → Option (Int32 × (DS × FS × WS × MS × SS × GS × RS × OS))) (hr23 : ∀ (d : DS) (f : FS) (w : WS) (m : MS) (s : SS) (g : GS) (r : RS) (o : OS) (x4 : Int32), Ev sc 404 6259 kk (6 * kk) M_Law_law 23 [(0, .ref 1000000), (1, .ref 0), (2, .ref 12), (3, .ref 30), (4, .int x4)] [] (eLV :: (HD d (HF f (HW w (HM m (HS s (HG g (HR r (HO o tl))))))))) (mapR ouI (fun z => (eLV :: (HD z.1 (HF z.2.1 (HW z.2.2.1 (HM z.2.2.2.1 (HS z.2.2.2.2.1 (HG z.2.2.2.2.2.1 (HR z.2.2.2.2.2.2.1 (HO z.2.2.2.2.2.2.2 tl)))))))))) (r23 d f w m s g r o x4))) (d : DS) (f : FS) (w : WS) (m : MS) (s : SS) (g : GS) (r : RS) (o : OS) (x4 : Int32) : Ev sc 404 6259 (kk + 0) (6 * kk + 0) M_Law_law 281 [(0, .ref 1000000), (1, .ref 0), (2, .ref 12), (3, .ref 30), (4, .int x4)] [] (eLV :: (HD d (HF f (HW w (HM m (HS s (HG g (HR r (HO o tl))))))))) (mapR ouI (fun z => (eLV :: (HD z.1 (HF z.2.1 (HW z.2.2.1 (HM z.2.2.2.1 (HS z.2.2.2.2.1 (HG z.2.2.2.2.2.1 (HR z.2.2.2.2.2.2.1 (HO z.2.2.2.2.2.2.2 tl)))))))))) (B_Law_law_281 sc r23 d f w m s g r o x4)) := by
  unfold B_Law_law_281
  refine ev_goto (tgt := 948) d_Law_law_281 rfl ?_
  exact ev_pick [0, 1, 2, 3, 4] rfl (ev_widen (Nat.le_refl _) (Nat.le_refl _) (by omega) (by omega) (e_B_Law_law_948   r23 hr23 d f w m s g r o x4))
def B_Law_law_251 (sc : Nat × (Nat → Int32)) (r23 : DS → FS → WS → MS → SS → GS → RS → OS → Int32 → Option (Int32 × (DS × FS × WS × MS × SS × GS × RS × OS))) (d : DS) (f : FS) (w : WS) (m : MS) (s : SS) (g : GS) (r : RS) (o : OS) (x4 : Int32) (x5 : Int32) (t0 : Int32) : Option (Int32 × (DS × FS × WS × MS × SS × GS × RS × OS)) :=
  if ((f_Mod_thrown r).1) = x5 then (if ¬ x5 = 0 then (B_Law_law_281 sc r23 d f w m s g r o x4) else (if inB 0 1 then (if (lg_cmp (oOut o (0 : Int32).toNatClampNeg) t0.toInt64) = 0 then (B_Law_law_281 sc r23 d f w m s g r o x4) else (some (0, (d, f, w, m, s, g, r, o)))) else none)) else (some (0, (d, f, w, m, s, g, r, o)))
theorem e_B_Law_law_251 {sc : Nat × (Nat → Int32)} {tl : List mn_E} {kk : Nat} (r23 : DS → FS → WS → MS → SS → GS → RS → OS → Int32 → Option (Int32 × (DS × FS × WS × MS × SS × GS × RS × OS))) (hr23 : ∀ (d : DS) (f : FS) (w : WS) (m : MS) (s : SS) (g : GS) (r : RS) (o : OS) (x4 : Int32), Ev sc 404 6259 kk (6 * kk) M_Law_law 23 [(0, .ref 1000000), (1, .ref 0), (2, .ref 12), (3, .ref 30), (4, .int x4)] [] (eLV :: (HD d (HF f (HW w (HM m (HS s (HG g (HR r (HO o tl))))))))) (mapR ouI (fun z => (eLV :: (HD z.1 (HF z.2.1 (HW z.2.2.1 (HM z.2.2.2.1 (HS z.2.2.2.2.1 (HG z.2.2.2.2.2.1 (HR z.2.2.2.2.2.2.1 (HO z.2.2.2.2.2.2.2 tl)))))))))) (r23 d f w m s g r o x4))) (d : DS) (f : FS) (w : WS) (m : MS) (s : SS) (g : GS) (r : RS) (o : OS) (x4 : Int32) (x5 : Int32) (t0 : Int32) : Ev sc 404 6259 (kk + 0) (6 * kk + 0) M_Law_law 251 [(0, .ref 1000000), (1, .ref 0), (2, .ref 12), (3, .ref 30), (4, .int x4), (5, .int x5)] [.int t0] (eLV :: (HD d (HF f (HW w (HM m (HS s (HG g (HR r (HO o tl))))))))) (mapR ouI (fun z => (eLV :: (HD z.1 (HF z.2.1 (HW z.2.2.1 (HM z.2.2.2.1 (HS z.2.2.2.2.1 (HG z.2.2.2.2.2.1 (HR z.2.2.2.2.2.2.1 (HO z.2.2.2.2.2.2.2 tl)))))))))) (B_Law_law_251 sc r23 d f w m s g r o x4 x5 t0)) := by
  unfold B_Law_law_251
  refine ev_istore d_Law_law_251 (by decide) rfl ?_
  refine ev_aload_n d_Law_law_253 rfl rfl ?_
  refine ev_callr (Mc := M_Mod_thrown) (v := some (.int ((f_Mod_thrown r).1))) (h1 := (eLV :: (HD d (HF f (HW w (HM m (HS s (HG g (HR r (HO o tl)))))))))) (k1 := 0) (n1 := 0) (inv_V (q := 12) (av := []) (rest := []) rfl (ci := 6) rfl d_Law_law_254 gw_1092 gw_1093 gw_1094 mw_Mod_thrown nh_Mod_thrown pn_Mod_thrown rfl) d_Law_law_254 pl_Mod_thrown (Nat.le_of_ble_eq_true rfl) (Nat.le_of_ble_eq_true rfl) (Nat.le_of_ble_eq_true rfl) (Nat.zero_add _) (Nat.zero_add _) (e_f_Mod_thrown (tl := (HO o tl)) (d := d) (f := f) (w := w) (m := m) (s := s) (g := g)  r ) (Or.inl (len1 (lenHD (lenHF (lenHW (lenHM (lenHS (lenHG (lenHR (lenHO rfl)))))))))) ?_
  refine ev_iload d_Law_law_257 rfl ?_
  refine ev_icmp_eq (tgt := 264) d_Law_law_259 rfl (fun h1 => ?_) (fun h1 => ?_)
  · rw [if_pos h1]
    refine ev_iload d_Law_law_264 rfl ?_
    refine ev_if_ne (tgt := 281) d_Law_law_266 rfl (fun h2 => ?_) (fun h2 => ?_)
    · rw [if_pos h2]
      exact ev_pick [1, 2, 3, 4, 5] rfl (ev_widen (Nat.le_refl _) (Nat.le_refl _) (by omega) (by omega) (e_B_Law_law_281   r23 hr23 d f w m s g r o x4))
    · rw [if_neg h2]
      refine ev_aload_n d_Law_law_269 rfl rfl ?_
      refine ev_iconst (v := 0) d_Law_law_270 rfl ?_
      refine ev_inB (fun h3 => ?_)
      refine ev_laload rfl (inB_of h3) d_Law_law_271 ?_
      refine ev_iload d_Law_law_272 rfl ?_
      refine ev_i2l d_Law_law_274 ?_
      refine ev_lcmp d_Law_law_275 ?_
      refine ev_if_eq (tgt := 281) d_Law_law_276 rfl (fun h4 => ?_) (fun h4 => ?_)
      · rw [if_pos h4]
        exact ev_pick [1, 2, 3, 4, 5] rfl (ev_widen (Nat.le_refl _) (Nat.le_refl _) (by omega) (by omega) (e_B_Law_law_281   r23 hr23 d f w m s g r o x4))
      · rw [if_neg h4]
        refine ev_iconst (v := 0) d_Law_law_279 rfl ?_
        exact ev_widen (Nat.zero_le _) (Nat.zero_le _) (Nat.zero_le _) (Nat.zero_le _) (ev_zret (ty := .boolean) rfl rfl d_Law_law_280)
  · rw [if_neg h1]
    refine ev_iconst (v := 0) d_Law_law_262 rfl ?_
    exact ev_widen (Nat.zero_le _) (Nat.zero_le _) (Nat.zero_le _) (Nat.zero_le _) (ev_zret (ty := .boolean) rfl rfl d_Law_law_263)
def B_Law_law_233 (sc : Nat × (Nat → Int32)) (r23 : DS → FS → WS → MS → SS → GS → RS → OS → Int32 → Option (Int32 × (DS × FS × WS × MS × SS × GS × RS × OS))) (d : DS) (f : FS) (w : WS) (m : MS) (s : SS) (g : GS) (r : RS) (o : OS) (x4 : Int32) (t0 : Int32) : Option (Int32 × (DS × FS × WS × MS × SS × GS × RS × OS)) :=
  if inB (x4 + 1) sc.1 then (if inB (x4 + 2) sc.1 then (bnd (f_Mod_open r (sc.2 (x4 + 1).toNatClampNeg) (sc.2 (x4 + 2).toNatClampNeg)) (fun q => B_Law_law_251 sc r23 d f w m s g q.2 o x4 t0 q.1)) else none) else none
theorem e_B_Law_law_233 {sc : Nat × (Nat → Int32)} {tl : List mn_E} {kk : Nat} (r23 : DS → FS → WS → MS → SS → GS → RS → OS → Int32 → Option (Int32 × (DS × FS × WS × MS × SS × GS × RS × OS))) (hr23 : ∀ (d : DS) (f : FS) (w : WS) (m : MS) (s : SS) (g : GS) (r : RS) (o : OS) (x4 : Int32), Ev sc 404 6259 kk (6 * kk) M_Law_law 23 [(0, .ref 1000000), (1, .ref 0), (2, .ref 12), (3, .ref 30), (4, .int x4)] [] (eLV :: (HD d (HF f (HW w (HM m (HS s (HG g (HR r (HO o tl))))))))) (mapR ouI (fun z => (eLV :: (HD z.1 (HF z.2.1 (HW z.2.2.1 (HM z.2.2.2.1 (HS z.2.2.2.2.1 (HG z.2.2.2.2.2.1 (HR z.2.2.2.2.2.2.1 (HO z.2.2.2.2.2.2.2 tl)))))))))) (r23 d f w m s g r o x4))) (d : DS) (f : FS) (w : WS) (m : MS) (s : SS) (g : GS) (r : RS) (o : OS) (x4 : Int32) (t0 : Int32) : Ev sc 404 6259 (kk + 0) (6 * kk + 0) M_Law_law 233 [(0, .ref 1000000), (1, .ref 0), (2, .ref 12), (3, .ref 30), (4, .int x4)] [.int t0] (eLV :: (HD d (HF f (HW w (HM m (HS s (HG g (HR r (HO o tl))))))))) (mapR ouI (fun z => (eLV :: (HD z.1 (HF z.2.1 (HW z.2.2.1 (HM z.2.2.2.1 (HS z.2.2.2.2.1 (HG z.2.2.2.2.2.1 (HR z.2.2.2.2.2.2.1 (HO z.2.2.2.2.2.2.2 tl)))))))))) (B_Law_law_233 sc r23 d f w m s g r o x4 t0)) := by
  unfold B_Law_law_233
  refine ev_istore d_Law_law_233 (by decide) rfl ?_
  refine ev_aload_n d_Law_law_235 rfl rfl ?_
  refine ev_aload_n d_Law_law_236 rfl rfl ?_
  refine ev_iload d_Law_law_237 rfl ?_
  refine ev_iconst (v := 1) d_Law_law_239 rfl ?_
  refine ev_iadd d_Law_law_240 ?_
  refine ev_inB (fun h1 => ?_)
  refine ev_sld (inB_of h1) d_Law_law_241 ?_
  refine ev_aload_n d_Law_law_242 rfl rfl ?_
  refine ev_iload d_Law_law_243 rfl ?_
  refine ev_iconst (v := 2) d_Law_law_245 rfl ?_
  refine ev_iadd d_Law_law_246 ?_
  refine ev_inB (fun h2 => ?_)
  refine ev_sld (inB_of h2) d_Law_law_247 ?_
  refine ev_callBK (k1 := 0) (n1 := 0) (rc := (f_Mod_open r (sc.2 (x4 + 1).toNatClampNeg) (sc.2 (x4 + 2).toNatClampNeg))) (ou := ouI) (Hs := (fun z => (eLV :: (HD d (HF f (HW w (HM m (HS s (HG g (HR z (HO o tl))))))))))) (inv_V (q := 12) (av := [.int (sc.2 (x4 + 1).toNatClampNeg), .int (sc.2 (x4 + 2).toNatClampNeg)]) (rest := []) rfl (ci := 6) rfl d_Law_law_248 gw_1191 gw_1192 gw_1193 mw_Mod_open nh_Mod_open pn_Mod_open rfl) d_Law_law_248 pl_Mod_open (Nat.le_of_ble_eq_true rfl) (Nat.le_of_ble_eq_true rfl) (Nat.le_of_ble_eq_true rfl) (Nat.zero_add _) (Nat.zero_add _) (e_f_Mod_open (tl := (HO o tl)) (d := d) (f := f) (w := w) (m := m) (s := s) (g := g)  r (sc.2 (x4 + 1).toNatClampNeg) (sc.2 (x4 + 2).toNatClampNeg)) (fun _ => (len1 (lenHD (lenHF (lenHW (lenHM (lenHS (lenHG (lenHR (lenHO rfl)))))))))) (fun v z h3 => ⟨_, rfl, ?_⟩)
  exact ev_pick [1, 2, 3, 4, 5, 0] rfl (ev_widen (Nat.le_refl _) (Nat.le_refl _) (by omega) (by omega) (e_B_Law_law_251   r23 hr23 d f w m s g z o x4 t0 v))
def B_Law_law_216 (sc : Nat × (Nat → Int32)) (r23 : DS → FS → WS → MS → SS → GS → RS → OS → Int32 → Option (Int32 × (DS × FS × WS × MS × SS × GS × RS × OS))) (d : DS) (f : FS) (w : WS) (m : MS) (s : SS) (g : GS) (r : RS) (o : OS) (x4 : Int32) : Option (Int32 × (DS × FS × WS × MS × SS × GS × RS × OS)) :=
  if inB (x4 + 1) sc.1 then (if inB (x4 + 2) sc.1 then (bnd (f_Law_open d f w m s g r o (sc.2 (x4 + 1).toNatClampNeg) (sc.2 (x4 + 2).toNatClampNeg)) (fun q => B_Law_law_233 sc r23 q.2.1 q.2.2.1 q.2.2.2.1 m s g r q.2.2.2.2 x4 q.1)) else none) else none
theorem e_B_Law_law_216 {sc : Nat × (Nat → Int32)} {tl : List mn_E} {kk : Nat} (r23 : DS → FS → WS → MS → SS → GS → RS → OS → Int32 → Option (Int32 × (DS × FS × WS × MS × SS × GS × RS × OS))) (hr23 : ∀ (d : DS) (f : FS) (w : WS) (m : MS) (s : SS) (g : GS) (r : RS) (o : OS) (x4 : Int32), Ev sc 404 6259 kk (6 * kk) M_Law_law 23 [(0, .ref 1000000), (1, .ref 0), (2, .ref 12), (3, .ref 30), (4, .int x4)] [] (eLV :: (HD d (HF f (HW w (HM m (HS s (HG g (HR r (HO o tl))))))))) (mapR ouI (fun z => (eLV :: (HD z.1 (HF z.2.1 (HW z.2.2.1 (HM z.2.2.2.1 (HS z.2.2.2.2.1 (HG z.2.2.2.2.2.1 (HR z.2.2.2.2.2.2.1 (HO z.2.2.2.2.2.2.2 tl)))))))))) (r23 d f w m s g r o x4))) (d : DS) (f : FS) (w : WS) (m : MS) (s : SS) (g : GS) (r : RS) (o : OS) (x4 : Int32) : Ev sc 404 6259 (kk + 1) (6 * kk + 6) M_Law_law 216 [(0, .ref 1000000), (1, .ref 0), (2, .ref 12), (3, .ref 30), (4, .int x4)] [] (eLV :: (HD d (HF f (HW w (HM m (HS s (HG g (HR r (HO o tl))))))))) (mapR ouI (fun z => (eLV :: (HD z.1 (HF z.2.1 (HW z.2.2.1 (HM z.2.2.2.1 (HS z.2.2.2.2.1 (HG z.2.2.2.2.2.1 (HR z.2.2.2.2.2.2.1 (HO z.2.2.2.2.2.2.2 tl)))))))))) (B_Law_law_216 sc r23 d f w m s g r o x4)) := by
  unfold B_Law_law_216
  refine ev_aload_n d_Law_law_216 rfl rfl ?_
  refine ev_aload_n d_Law_law_217 rfl rfl ?_
  refine ev_iload d_Law_law_218 rfl ?_
  refine ev_iconst (v := 1) d_Law_law_220 rfl ?_
  refine ev_iadd d_Law_law_221 ?_
  refine ev_inB (fun h1 => ?_)
  refine ev_sld (inB_of h1) d_Law_law_222 ?_
  refine ev_aload_n d_Law_law_223 rfl rfl ?_
  refine ev_iload d_Law_law_224 rfl ?_
  refine ev_iconst (v := 2) d_Law_law_226 rfl ?_
  refine ev_iadd d_Law_law_227 ?_
  refine ev_inB (fun h2 => ?_)
  refine ev_sld (inB_of h2) d_Law_law_228 ?_
  refine ev_aload_n d_Law_law_229 rfl rfl ?_
  refine ev_callBK (k1 := 1) (n1 := 6) (k2 := kk) (n2 := 6 * kk) (rc := (f_Law_open d f w m s g r o (sc.2 (x4 + 1).toNatClampNeg) (sc.2 (x4 + 2).toNatClampNeg))) (ou := ouI) (Hs := (fun z => (eLV :: (HD z.1 (HF z.2.1 (HW z.2.2.1 (HM m (HS s (HG g (HR r (HO z.2.2.2 tl))))))))))) (inv_S (av := [.ref 0, .int (sc.2 (x4 + 1).toNatClampNeg), .int (sc.2 (x4 + 2).toNatClampNeg), .ref 30]) (rest := []) d_Law_law_230 gw_846 gw_847 gw_101 mw_Law_open nh_Law_open pn_Law_open rfl) d_Law_law_230 pl_Law_open (Nat.le_of_ble_eq_true rfl) (Nat.le_of_ble_eq_true rfl) (Nat.le_of_ble_eq_true rfl) (by omega) (by omega) (e_f_Law_open (tl := tl)  d f w m s g r o (sc.2 (x4 + 1).toNatClampNeg) (sc.2 (x4 + 2).toNatClampNeg)) (fun _ => (len1 (lenHD (lenHF (lenHW (lenHM (lenHS (lenHG (lenHR (lenHO rfl)))))))))) (fun v z h3 => ⟨_, rfl, ?_⟩)
  exact ev_pick [0, 1, 2, 3, 4] rfl (ev_widen (Nat.le_refl _) (Nat.le_refl _) (by omega) (by omega) (e_B_Law_law_233   r23 hr23 z.1 z.2.1 z.2.2.1 m s g r z.2.2.2 x4 v))
def B_Law_law_349 (sc : Nat × (Nat → Int32)) (r23 : DS → FS → WS → MS → SS → GS → RS → OS → Int32 → Option (Int32 × (DS × FS × WS × MS × SS × GS × RS × OS))) (d : DS) (f : FS) (w : WS) (m : MS) (s : SS) (g : GS) (r : RS) (o : OS) (x4 : Int32) : Option (Int32 × (DS × FS × WS × MS × SS × GS × RS × OS)) :=
  B_Law_law_948 sc r23 d f w m s g r o x4
theorem e_B_Law_law_349 {sc : Nat × (Nat → Int32)} {tl : List mn_E} {kk : Nat} (r23 : DS → FS → WS → MS → SS → GS → RS → OS → Int32 → Option (Int32 × (DS × FS × WS × MS × SS × GS × RS × OS))) (hr23 : ∀ (d : DS) (f : FS) (w : WS) (m : MS) (s : SS) (g : GS) (r : RS) (o : OS) (x4 : Int32), Ev sc 404 6259 kk (6 * kk) M_Law_law 23 [(0, .ref 1000000), (1, .ref 0), (2, .ref 12), (3, .ref 30), (4, .int x4)] [] (eLV :: (HD d (HF f (HW w (HM m (HS s (HG g (HR r (HO o tl))))))))) (mapR ouI (fun z => (eLV :: (HD z.1 (HF z.2.1 (HW z.2.2.1 (HM z.2.2.2.1 (HS z.2.2.2.2.1 (HG z.2.2.2.2.2.1 (HR z.2.2.2.2.2.2.1 (HO z.2.2.2.2.2.2.2 tl)))))))))) (r23 d f w m s g r o x4))) (d : DS) (f : FS) (w : WS) (m : MS) (s : SS) (g : GS) (r : RS) (o : OS) (x4 : Int32) : Ev sc 404 6259 (kk + 0) (6 * kk + 0) M_Law_law 349 [(0, .ref 1000000), (1, .ref 0), (2, .ref 12), (3, .ref 30), (4, .int x4)] [] (eLV :: (HD d (HF f (HW w (HM m (HS s (HG g (HR r (HO o tl))))))))) (mapR ouI (fun z => (eLV :: (HD z.1 (HF z.2.1 (HW z.2.2.1 (HM z.2.2.2.1 (HS z.2.2.2.2.1 (HG z.2.2.2.2.2.1 (HR z.2.2.2.2.2.2.1 (HO z.2.2.2.2.2.2.2 tl)))))))))) (B_Law_law_349 sc r23 d f w m s g r o x4)) := by
  unfold B_Law_law_349
  refine ev_goto (tgt := 948) d_Law_law_349 rfl ?_
  exact ev_pick [0, 1, 2, 3, 4] rfl (ev_widen (Nat.le_refl _) (Nat.le_refl _) (by omega) (by omega) (e_B_Law_law_948   r23 hr23 d f w m s g r o x4))
def B_Law_law_319 (sc : Nat × (Nat → Int32)) (r23 : DS → FS → WS → MS → SS → GS → RS → OS → Int32 → Option (Int32 × (DS × FS × WS × MS × SS × GS × RS × OS))) (d : DS) (f : FS) (w : WS) (m : MS) (s : SS) (g : GS) (r : RS) (o : OS) (x4 : Int32) (x5 : Int32) (t0 : Int32) : Option (Int32 × (DS × FS × WS × MS × SS × GS × RS × OS)) :=
  if ((f_Mod_thrown r).1) = x5 then (if ¬ x5 = 0 then (B_Law_law_349 sc r23 d f w m s g r o x4) else (if inB 0 1 then (if (lg_cmp (oOut o (0 : Int32).toNatClampNeg) t0.toInt64) = 0 then (B_Law_law_349 sc r23 d f w m s g r o x4) else (some (0, (d, f, w, m, s, g, r, o)))) else none)) else (some (0, (d, f, w, m, s, g, r, o)))
theorem e_B_Law_law_319 {sc : Nat × (Nat → Int32)} {tl : List mn_E} {kk : Nat} (r23 : DS → FS → WS → MS → SS → GS → RS → OS → Int32 → Option (Int32 × (DS × FS × WS × MS × SS × GS × RS × OS))) (hr23 : ∀ (d : DS) (f : FS) (w : WS) (m : MS) (s : SS) (g : GS) (r : RS) (o : OS) (x4 : Int32), Ev sc 404 6259 kk (6 * kk) M_Law_law 23 [(0, .ref 1000000), (1, .ref 0), (2, .ref 12), (3, .ref 30), (4, .int x4)] [] (eLV :: (HD d (HF f (HW w (HM m (HS s (HG g (HR r (HO o tl))))))))) (mapR ouI (fun z => (eLV :: (HD z.1 (HF z.2.1 (HW z.2.2.1 (HM z.2.2.2.1 (HS z.2.2.2.2.1 (HG z.2.2.2.2.2.1 (HR z.2.2.2.2.2.2.1 (HO z.2.2.2.2.2.2.2 tl)))))))))) (r23 d f w m s g r o x4))) (d : DS) (f : FS) (w : WS) (m : MS) (s : SS) (g : GS) (r : RS) (o : OS) (x4 : Int32) (x5 : Int32) (t0 : Int32) : Ev sc 404 6259 (kk + 0) (6 * kk + 0) M_Law_law 319 [(0, .ref 1000000), (1, .ref 0), (2, .ref 12), (3, .ref 30), (4, .int x4), (5, .int x5)] [.int t0] (eLV :: (HD d (HF f (HW w (HM m (HS s (HG g (HR r (HO o tl))))))))) (mapR ouI (fun z => (eLV :: (HD z.1 (HF z.2.1 (HW z.2.2.1 (HM z.2.2.2.1 (HS z.2.2.2.2.1 (HG z.2.2.2.2.2.1 (HR z.2.2.2.2.2.2.1 (HO z.2.2.2.2.2.2.2 tl)))))))))) (B_Law_law_319 sc r23 d f w m s g r o x4 x5 t0)) := by
  unfold B_Law_law_319
  refine ev_istore d_Law_law_319 (by decide) rfl ?_
  refine ev_aload_n d_Law_law_321 rfl rfl ?_
  refine ev_callr (Mc := M_Mod_thrown) (v := some (.int ((f_Mod_thrown r).1))) (h1 := (eLV :: (HD d (HF f (HW w (HM m (HS s (HG g (HR r (HO o tl)))))))))) (k1 := 0) (n1 := 0) (inv_V (q := 12) (av := []) (rest := []) rfl (ci := 6) rfl d_Law_law_322 gw_1092 gw_1093 gw_1094 mw_Mod_thrown nh_Mod_thrown pn_Mod_thrown rfl) d_Law_law_322 pl_Mod_thrown (Nat.le_of_ble_eq_true rfl) (Nat.le_of_ble_eq_true rfl) (Nat.le_of_ble_eq_true rfl) (Nat.zero_add _) (Nat.zero_add _) (e_f_Mod_thrown (tl := (HO o tl)) (d := d) (f := f) (w := w) (m := m) (s := s) (g := g)  r ) (Or.inl (len1 (lenHD (lenHF (lenHW (lenHM (lenHS (lenHG (lenHR (lenHO rfl)))))))))) ?_
  refine ev_iload d_Law_law_325 rfl ?_
  refine ev_icmp_eq (tgt := 332) d_Law_law_327 rfl (fun h1 => ?_) (fun h1 => ?_)
  · rw [if_pos h1]
    refine ev_iload d_Law_law_332 rfl ?_
    refine ev_if_ne (tgt := 349) d_Law_law_334 rfl (fun h2 => ?_) (fun h2 => ?_)
    · rw [if_pos h2]
      exact ev_pick [1, 2, 3, 4, 5] rfl (ev_widen (Nat.le_refl _) (Nat.le_refl _) (by omega) (by omega) (e_B_Law_law_349   r23 hr23 d f w m s g r o x4))
    · rw [if_neg h2]
      refine ev_aload_n d_Law_law_337 rfl rfl ?_
      refine ev_iconst (v := 0) d_Law_law_338 rfl ?_
      refine ev_inB (fun h3 => ?_)
      refine ev_laload rfl (inB_of h3) d_Law_law_339 ?_
      refine ev_iload d_Law_law_340 rfl ?_
      refine ev_i2l d_Law_law_342 ?_
      refine ev_lcmp d_Law_law_343 ?_
      refine ev_if_eq (tgt := 349) d_Law_law_344 rfl (fun h4 => ?_) (fun h4 => ?_)
      · rw [if_pos h4]
        exact ev_pick [1, 2, 3, 4, 5] rfl (ev_widen (Nat.le_refl _) (Nat.le_refl _) (by omega) (by omega) (e_B_Law_law_349   r23 hr23 d f w m s g r o x4))
      · rw [if_neg h4]
        refine ev_iconst (v := 0) d_Law_law_347 rfl ?_
        exact ev_widen (Nat.zero_le _) (Nat.zero_le _) (Nat.zero_le _) (Nat.zero_le _) (ev_zret (ty := .boolean) rfl rfl d_Law_law_348)
  · rw [if_neg h1]
    refine ev_iconst (v := 0) d_Law_law_330 rfl ?_
    exact ev_widen (Nat.zero_le _) (Nat.zero_le _) (Nat.zero_le _) (Nat.zero_le _) (ev_zret (ty := .boolean) rfl rfl d_Law_law_331)
def B_Law_law_301 (sc : Nat × (Nat → Int32)) (r23 : DS → FS → WS → MS → SS → GS → RS → OS → Int32 → Option (Int32 × (DS × FS × WS × MS × SS × GS × RS × OS))) (d : DS) (f : FS) (w : WS) (m : MS) (s : SS) (g : GS) (r : RS) (o : OS) (x4 : Int32) (t0 : Int32) : Option (Int32 × (DS × FS × WS × MS × SS × GS × RS × OS)) :=
  if inB (x4 + 1) sc.1 then (if inB (x4 + 2) sc.1 then (bnd (f_Mod_read r (sc.2 (x4 + 1).toNatClampNeg) (sc.2 (x4 + 2).toNatClampNeg)) (fun q => B_Law_law_319 sc r23 d f w m s g q.2 o x4 t0 q.1)) else none) else none
theorem e_B_Law_law_301 {sc : Nat × (Nat → Int32)} {tl : List mn_E} {kk : Nat} (r23 : DS → FS → WS → MS → SS → GS → RS → OS → Int32 → Option (Int32 × (DS × FS × WS × MS × SS × GS × RS × OS))) (hr23 : ∀ (d : DS) (f : FS) (w : WS) (m : MS) (s : SS) (g : GS) (r : RS) (o : OS) (x4 : Int32), Ev sc 404 6259 kk (6 * kk) M_Law_law 23 [(0, .ref 1000000), (1, .ref 0), (2, .ref 12), (3, .ref 30), (4, .int x4)] [] (eLV :: (HD d (HF f (HW w (HM m (HS s (HG g (HR r (HO o tl))))))))) (mapR ouI (fun z => (eLV :: (HD z.1 (HF z.2.1 (HW z.2.2.1 (HM z.2.2.2.1 (HS z.2.2.2.2.1 (HG z.2.2.2.2.2.1 (HR z.2.2.2.2.2.2.1 (HO z.2.2.2.2.2.2.2 tl)))))))))) (r23 d f w m s g r o x4))) (d : DS) (f : FS) (w : WS) (m : MS) (s : SS) (g : GS) (r : RS) (o : OS) (x4 : Int32) (t0 : Int32) : Ev sc 404 6259 (kk + 0) (6 * kk + 0) M_Law_law 301 [(0, .ref 1000000), (1, .ref 0), (2, .ref 12), (3, .ref 30), (4, .int x4)] [.int t0] (eLV :: (HD d (HF f (HW w (HM m (HS s (HG g (HR r (HO o tl))))))))) (mapR ouI (fun z => (eLV :: (HD z.1 (HF z.2.1 (HW z.2.2.1 (HM z.2.2.2.1 (HS z.2.2.2.2.1 (HG z.2.2.2.2.2.1 (HR z.2.2.2.2.2.2.1 (HO z.2.2.2.2.2.2.2 tl)))))))))) (B_Law_law_301 sc r23 d f w m s g r o x4 t0)) := by
  unfold B_Law_law_301
  refine ev_istore d_Law_law_301 (by decide) rfl ?_
  refine ev_aload_n d_Law_law_303 rfl rfl ?_
  refine ev_aload_n d_Law_law_304 rfl rfl ?_
  refine ev_iload d_Law_law_305 rfl ?_
  refine ev_iconst (v := 1) d_Law_law_307 rfl ?_
  refine ev_iadd d_Law_law_308 ?_
  refine ev_inB (fun h1 => ?_)
  refine ev_sld (inB_of h1) d_Law_law_309 ?_
  refine ev_aload_n d_Law_law_310 rfl rfl ?_
  refine ev_iload d_Law_law_311 rfl ?_
  refine ev_iconst (v := 2) d_Law_law_313 rfl ?_
  refine ev_iadd d_Law_law_314 ?_
  refine ev_inB (fun h2 => ?_)
  refine ev_sld (inB_of h2) d_Law_law_315 ?_
  refine ev_callBK (k1 := 0) (n1 := 0) (rc := (f_Mod_read r (sc.2 (x4 + 1).toNatClampNeg) (sc.2 (x4 + 2).toNatClampNeg))) (ou := ouI) (Hs := (fun z => (eLV :: (HD d (HF f (HW w (HM m (HS s (HG g (HR z (HO o tl))))))))))) (inv_V (q := 12) (av := [.int (sc.2 (x4 + 1).toNatClampNeg), .int (sc.2 (x4 + 2).toNatClampNeg)]) (rest := []) rfl (ci := 6) rfl d_Law_law_316 gw_1199 gw_1200 gw_1201 mw_Mod_read nh_Mod_read pn_Mod_read rfl) d_Law_law_316 pl_Mod_read (Nat.le_of_ble_eq_true rfl) (Nat.le_of_ble_eq_true rfl) (Nat.le_of_ble_eq_true rfl) (Nat.zero_add _) (Nat.zero_add _) (e_f_Mod_read (tl := (HO o tl)) (d := d) (f := f) (w := w) (m := m) (s := s) (g := g)  r (sc.2 (x4 + 1).toNatClampNeg) (sc.2 (x4 + 2).toNatClampNeg)) (fun _ => (len1 (lenHD (lenHF (lenHW (lenHM (lenHS (lenHG (lenHR (lenHO rfl)))))))))) (fun v z h3 => ⟨_, rfl, ?_⟩)
  exact ev_pick [1, 2, 3, 4, 5, 0] rfl (ev_widen (Nat.le_refl _) (Nat.le_refl _) (by omega) (by omega) (e_B_Law_law_319   r23 hr23 d f w m s g z o x4 t0 v))
def B_Law_law_284 (sc : Nat × (Nat → Int32)) (r23 : DS → FS → WS → MS → SS → GS → RS → OS → Int32 → Option (Int32 × (DS × FS × WS × MS × SS × GS × RS × OS))) (d : DS) (f : FS) (w : WS) (m : MS) (s : SS) (g : GS) (r : RS) (o : OS) (x4 : Int32) : Option (Int32 × (DS × FS × WS × MS × SS × GS × RS × OS)) :=
  if inB (x4 + 1) sc.1 then (if inB (x4 + 2) sc.1 then (bnd (f_Law_read d f w m s g r o (sc.2 (x4 + 1).toNatClampNeg) (sc.2 (x4 + 2).toNatClampNeg)) (fun q => B_Law_law_301 sc r23 q.2.1 q.2.2.1 w m s g r q.2.2.2 x4 q.1)) else none) else none
theorem e_B_Law_law_284 {sc : Nat × (Nat → Int32)} {tl : List mn_E} {kk : Nat} (r23 : DS → FS → WS → MS → SS → GS → RS → OS → Int32 → Option (Int32 × (DS × FS × WS × MS × SS × GS × RS × OS))) (hr23 : ∀ (d : DS) (f : FS) (w : WS) (m : MS) (s : SS) (g : GS) (r : RS) (o : OS) (x4 : Int32), Ev sc 404 6259 kk (6 * kk) M_Law_law 23 [(0, .ref 1000000), (1, .ref 0), (2, .ref 12), (3, .ref 30), (4, .int x4)] [] (eLV :: (HD d (HF f (HW w (HM m (HS s (HG g (HR r (HO o tl))))))))) (mapR ouI (fun z => (eLV :: (HD z.1 (HF z.2.1 (HW z.2.2.1 (HM z.2.2.2.1 (HS z.2.2.2.2.1 (HG z.2.2.2.2.2.1 (HR z.2.2.2.2.2.2.1 (HO z.2.2.2.2.2.2.2 tl)))))))))) (r23 d f w m s g r o x4))) (d : DS) (f : FS) (w : WS) (m : MS) (s : SS) (g : GS) (r : RS) (o : OS) (x4 : Int32) : Ev sc 404 6259 (kk + 1) (6 * kk + 6) M_Law_law 284 [(0, .ref 1000000), (1, .ref 0), (2, .ref 12), (3, .ref 30), (4, .int x4)] [] (eLV :: (HD d (HF f (HW w (HM m (HS s (HG g (HR r (HO o tl))))))))) (mapR ouI (fun z => (eLV :: (HD z.1 (HF z.2.1 (HW z.2.2.1 (HM z.2.2.2.1 (HS z.2.2.2.2.1 (HG z.2.2.2.2.2.1 (HR z.2.2.2.2.2.2.1 (HO z.2.2.2.2.2.2.2 tl)))))))))) (B_Law_law_284 sc r23 d f w m s g r o x4)) := by
  unfold B_Law_law_284
  refine ev_aload_n d_Law_law_284 rfl rfl ?_
  refine ev_aload_n d_Law_law_285 rfl rfl ?_
  refine ev_iload d_Law_law_286 rfl ?_
  refine ev_iconst (v := 1) d_Law_law_288 rfl ?_
  refine ev_iadd d_Law_law_289 ?_
  refine ev_inB (fun h1 => ?_)
  refine ev_sld (inB_of h1) d_Law_law_290 ?_
  refine ev_aload_n d_Law_law_291 rfl rfl ?_
  refine ev_iload d_Law_law_292 rfl ?_
  refine ev_iconst (v := 2) d_Law_law_294 rfl ?_
  refine ev_iadd d_Law_law_295 ?_
  refine ev_inB (fun h2 => ?_)
  refine ev_sld (inB_of h2) d_Law_law_296 ?_
  refine ev_aload_n d_Law_law_297 rfl rfl ?_
  refine ev_callBK (k1 := 1) (n1 := 6) (k2 := kk) (n2 := 6 * kk) (rc := (f_Law_read d f w m s g r o (sc.2 (x4 + 1).toNatClampNeg) (sc.2 (x4 + 2).toNatClampNeg))) (ou := ouI) (Hs := (fun z => (eLV :: (HD z.1 (HF z.2.1 (HW w (HM m (HS s (HG g (HR r (HO z.2.2 tl))))))))))) (inv_S (av := [.ref 0, .int (sc.2 (x4 + 1).toNatClampNeg), .int (sc.2 (x4 + 2).toNatClampNeg), .ref 30]) (rest := []) d_Law_law_298 gw_860 gw_861 gw_101 mw_Law_read nh_Law_read pn_Law_read rfl) d_Law_law_298 pl_Law_read (Nat.le_of_ble_eq_true rfl) (Nat.le_of_ble_eq_true rfl) (Nat.le_of_ble_eq_true rfl) (by omega) (by omega) (e_f_Law_read (tl := tl)  d f w m s g r o (sc.2 (x4 + 1).toNatClampNeg) (sc.2 (x4 + 2).toNatClampNeg)) (fun _ => (len1 (lenHD (lenHF (lenHW (lenHM (lenHS (lenHG (lenHR (lenHO rfl)))))))))) (fun v z h3 => ⟨_, rfl, ?_⟩)
  exact ev_pick [0, 1, 2, 3, 4] rfl (ev_widen (Nat.le_refl _) (Nat.le_refl _) (by omega) (by omega) (e_B_Law_law_301   r23 hr23 z.1 z.2.1 w m s g r z.2.2 x4 v))
def B_Law_law_398 (sc : Nat × (Nat → Int32)) (r23 : DS → FS → WS → MS → SS → GS → RS → OS → Int32 → Option (Int32 × (DS × FS × WS × MS × SS × GS × RS × OS))) (d : DS) (f : FS) (w : WS) (m : MS) (s : SS) (g : GS) (r : RS) (o : OS) (x4 : Int32) (x5 : Int32) : Option (Int32 × (DS × FS × WS × MS × SS × GS × RS × OS)) :=
  if ((f_Mod_thrown r).1) = x5 then (B_Law_law_948 sc r23 d f w m s g r o x4) else (some (0, (d, f, w, m, s, g, r, o)))
theorem e_B_Law_law_398 {sc : Nat × (Nat → Int32)} {tl : List mn_E} {kk : Nat} (r23 : DS → FS → WS → MS → SS → GS → RS → OS → Int32 → Option (Int32 × (DS × FS × WS × MS × SS × GS × RS × OS))) (hr23 : ∀ (d : DS) (f : FS) (w : WS) (m : MS) (s : SS) (g : GS) (r : RS) (o : OS) (x4 : Int32), Ev sc 404 6259 kk (6 * kk) M_Law_law 23 [(0, .ref 1000000), (1, .ref 0), (2, .ref 12), (3, .ref 30), (4, .int x4)] [] (eLV :: (HD d (HF f (HW w (HM m (HS s (HG g (HR r (HO o tl))))))))) (mapR ouI (fun z => (eLV :: (HD z.1 (HF z.2.1 (HW z.2.2.1 (HM z.2.2.2.1 (HS z.2.2.2.2.1 (HG z.2.2.2.2.2.1 (HR z.2.2.2.2.2.2.1 (HO z.2.2.2.2.2.2.2 tl)))))))))) (r23 d f w m s g r o x4))) (d : DS) (f : FS) (w : WS) (m : MS) (s : SS) (g : GS) (r : RS) (o : OS) (x4 : Int32) (x5 : Int32) : Ev sc 404 6259 (kk + 0) (6 * kk + 0) M_Law_law 398 [(0, .ref 1000000), (1, .ref 0), (2, .ref 12), (3, .ref 30), (4, .int x4), (5, .int x5)] [] (eLV :: (HD d (HF f (HW w (HM m (HS s (HG g (HR r (HO o tl))))))))) (mapR ouI (fun z => (eLV :: (HD z.1 (HF z.2.1 (HW z.2.2.1 (HM z.2.2.2.1 (HS z.2.2.2.2.1 (HG z.2.2.2.2.2.1 (HR z.2.2.2.2.2.2.1 (HO z.2.2.2.2.2.2.2 tl)))))))))) (B_Law_law_398 sc r23 d f w m s g r o x4 x5)) := by
  unfold B_Law_law_398
  refine ev_aload_n d_Law_law_398 rfl rfl ?_
  refine ev_callr (Mc := M_Mod_thrown) (v := some (.int ((f_Mod_thrown r).1))) (h1 := (eLV :: (HD d (HF f (HW w (HM m (HS s (HG g (HR r (HO o tl)))))))))) (k1 := 0) (n1 := 0) (inv_V (q := 12) (av := []) (rest := []) rfl (ci := 6) rfl d_Law_law_399 gw_1092 gw_1093 gw_1094 mw_Mod_thrown nh_Mod_thrown pn_Mod_thrown rfl) d_Law_law_399 pl_Mod_thrown (Nat.le_of_ble_eq_true rfl) (Nat.le_of_ble_eq_true rfl) (Nat.le_of_ble_eq_true rfl) (Nat.zero_add _) (Nat.zero_add _) (e_f_Mod_thrown (tl := (HO o tl)) (d := d) (f := f) (w := w) (m := m) (s := s) (g := g)  r ) (Or.inl (len1 (lenHD (lenHF (lenHW (lenHM (lenHS (lenHG (lenHR (lenHO rfl)))))))))) ?_
  refine ev_iload d_Law_law_402 rfl ?_
  refine ev_icmp_eq (tgt := 409) d_Law_law_404 rfl (fun h1 => ?_) (fun h1 => ?_)
  · rw [if_pos h1]
    refine ev_goto (tgt := 948) d_Law_law_409 rfl ?_
    exact ev_pick [0, 1, 2, 3, 4] rfl (ev_widen (Nat.le_refl _) (Nat.le_refl _) (by omega) (by omega) (e_B_Law_law_948   r23 hr23 d f w m s g r o x4))
  · rw [if_neg h1]
    refine ev_iconst (v := 0) d_Law_law_407 rfl ?_
    exact ev_widen (Nat.zero_le _) (Nat.zero_le _) (Nat.zero_le _) (Nat.zero_le _) (ev_zret (ty := .boolean) rfl rfl d_Law_law_408)
def B_Law_law_374 (sc : Nat × (Nat → Int32)) (r23 : DS → FS → WS → MS → SS → GS → RS → OS → Int32 → Option (Int32 × (DS × FS × WS × MS × SS × GS × RS × OS))) (d : DS) (f : FS) (w : WS) (m : MS) (s : SS) (g : GS) (r : RS) (o : OS) (x4 : Int32) (t0 : Int32) : Option (Int32 × (DS × FS × WS × MS × SS × GS × RS × OS)) :=
  if inB (x4 + 1) sc.1 then (if inB (x4 + 2) sc.1 then (if inB (x4 + 3) sc.1 then (bnd (f_Mod_write r (sc.2 (x4 + 1).toNatClampNeg) (sc.2 (x4 + 2).toNatClampNeg) (sc.2 (x4 + 3).toNatClampNeg)) (fun q => B_Law_law_398 sc r23 d f w m s g q.2 o x4 t0)) else none) else none) else none
theorem e_B_Law_law_374 {sc : Nat × (Nat → Int32)} {tl : List mn_E} {kk : Nat} (r23 : DS → FS → WS → MS → SS → GS → RS → OS → Int32 → Option (Int32 × (DS × FS × WS × MS × SS × GS × RS × OS))) (hr23 : ∀ (d : DS) (f : FS) (w : WS) (m : MS) (s : SS) (g : GS) (r : RS) (o : OS) (x4 : Int32), Ev sc 404 6259 kk (6 * kk) M_Law_law 23 [(0, .ref 1000000), (1, .ref 0), (2, .ref 12), (3, .ref 30), (4, .int x4)] [] (eLV :: (HD d (HF f (HW w (HM m (HS s (HG g (HR r (HO o tl))))))))) (mapR ouI (fun z => (eLV :: (HD z.1 (HF z.2.1 (HW z.2.2.1 (HM z.2.2.2.1 (HS z.2.2.2.2.1 (HG z.2.2.2.2.2.1 (HR z.2.2.2.2.2.2.1 (HO z.2.2.2.2.2.2.2 tl)))))))))) (r23 d f w m s g r o x4))) (d : DS) (f : FS) (w : WS) (m : MS) (s : SS) (g : GS) (r : RS) (o : OS) (x4 : Int32) (t0 : Int32) : Ev sc 404 6259 (kk + 0) (6 * kk + 0) M_Law_law 374 [(0, .ref 1000000), (1, .ref 0), (2, .ref 12), (3, .ref 30), (4, .int x4)] [.int t0] (eLV :: (HD d (HF f (HW w (HM m (HS s (HG g (HR r (HO o tl))))))))) (mapR ouI (fun z => (eLV :: (HD z.1 (HF z.2.1 (HW z.2.2.1 (HM z.2.2.2.1 (HS z.2.2.2.2.1 (HG z.2.2.2.2.2.1 (HR z.2.2.2.2.2.2.1 (HO z.2.2.2.2.2.2.2 tl)))))))))) (B_Law_law_374 sc r23 d f w m s g r o x4 t0)) := by
  unfold B_Law_law_374
  refine ev_istore d_Law_law_374 (by decide) rfl ?_
  refine ev_aload_n d_Law_law_376 rfl rfl ?_
  refine ev_aload_n d_Law_law_377 rfl rfl ?_
  refine ev_iload d_Law_law_378 rfl ?_
  refine ev_iconst (v := 1) d_Law_law_380 rfl ?_
  refine ev_iadd d_Law_law_381 ?_
  refine ev_inB (fun h1 => ?_)
  refine ev_sld (inB_of h1) d_Law_law_382 ?_
  refine ev_aload_n d_Law_law_383 rfl rfl ?_
  refine ev_iload d_Law_law_384 rfl ?_
  refine ev_iconst (v := 2) d_Law_law_386 rfl ?_
  refine ev_iadd d_Law_law_387 ?_
  refine ev_inB (fun h2 => ?_)
  refine ev_sld (inB_of h2) d_Law_law_388 ?_
  refine ev_aload_n d_Law_law_389 rfl rfl ?_
  refine ev_iload d_Law_law_390 rfl ?_
  refine ev_iconst (v := 3) d_Law_law_392 rfl ?_
  refine ev_iadd d_Law_law_393 ?_
  refine ev_inB (fun h3 => ?_)
  refine ev_sld (inB_of h3) d_Law_law_394 ?_
  refine ev_callBK (k1 := 0) (n1 := 0) (rc := (f_Mod_write r (sc.2 (x4 + 1).toNatClampNeg) (sc.2 (x4 + 2).toNatClampNeg) (sc.2 (x4 + 3).toNatClampNeg))) (ou := ouV) (Hs := (fun z => (eLV :: (HD d (HF f (HW w (HM m (HS s (HG g (HR z (HO o tl))))))))))) (inv_V (q := 12) (av := [.int (sc.2 (x4 + 1).toNatClampNeg), .int (sc.2 (x4 + 2).toNatClampNeg), .int (sc.2 (x4 + 3).toNatClampNeg)]) (rest := []) rfl (ci := 6) rfl d_Law_law_395 gw_1215 gw_1216 gw_1217 mw_Mod_write nh_Mod_write pn_Mod_write rfl) d_Law_law_395 pl_Mod_write (Nat.le_of_ble_eq_true rfl) (Nat.le_of_ble_eq_true rfl) (Nat.le_of_ble_eq_true rfl) (Nat.zero_add _) (Nat.zero_add _) (e_f_Mod_write (tl := (HO o tl)) (d := d) (f := f) (w := w) (m := m) (s := s) (g := g)  r (sc.2 (x4 + 1).toNatClampNeg) (sc.2 (x4 + 2).toNatClampNeg) (sc.2 (x4 + 3).toNatClampNeg)) (fun _ => (len1 (lenHD (lenHF (lenHW (lenHM (lenHS (lenHG (lenHR (lenHO rfl)))))))))) (fun v z h4 => ⟨_, rfl, ?_⟩)
  exact ev_pick [1, 2, 3, 4, 5, 0] rfl (ev_widen (Nat.le_refl _) (Nat.le_refl _) (by omega) (by omega) (e_B_Law_law_398   r23 hr23 d f w m s g z o x4 t0))
def B_Law_law_352 (sc : Nat × (Nat → Int32)) (r23 : DS → FS → WS → MS → SS → GS → RS → OS → Int32 → Option (Int32 × (DS × FS × WS × MS × SS × GS × RS × OS))) (d : DS) (f : FS) (w : WS) (m : MS) (s : SS) (g : GS) (r : RS) (o : OS) (x4 : Int32) : Option (Int32 × (DS × FS × WS × MS × SS × GS × RS × OS)) :=
  if inB (x4 + 1) sc.1 then (if inB (x4 + 2) sc.1 then (if inB (x4 + 3) sc.1 then (bnd (f_Law_write d f w m s g r o (sc.2 (x4 + 1).toNatClampNeg) (sc.2 (x4 + 2).toNatClampNeg) (sc.2 (x4 + 3).toNatClampNeg)) (fun q => B_Law_law_374 sc r23 q.2.1 q.2.2.1 w q.2.2.2 s g r o x4 q.1)) else none) else none) else none
theorem e_B_Law_law_352 {sc : Nat × (Nat → Int32)} {tl : List mn_E} {kk : Nat} (r23 : DS → FS → WS → MS → SS → GS → RS → OS → Int32 → Option (Int32 × (DS × FS × WS × MS × SS × GS × RS × OS))) (hr23 : ∀ (d : DS) (f : FS) (w : WS) (m : MS) (s : SS) (g : GS) (r : RS) (o : OS) (x4 : Int32), Ev sc 404 6259 kk (6 * kk) M_Law_law 23 [(0, .ref 1000000), (1, .ref 0), (2, .ref 12), (3, .ref 30), (4, .int x4)] [] (eLV :: (HD d (HF f (HW w (HM m (HS s (HG g (HR r (HO o tl))))))))) (mapR ouI (fun z => (eLV :: (HD z.1 (HF z.2.1 (HW z.2.2.1 (HM z.2.2.2.1 (HS z.2.2.2.2.1 (HG z.2.2.2.2.2.1 (HR z.2.2.2.2.2.2.1 (HO z.2.2.2.2.2.2.2 tl)))))))))) (r23 d f w m s g r o x4))) (d : DS) (f : FS) (w : WS) (m : MS) (s : SS) (g : GS) (r : RS) (o : OS) (x4 : Int32) : Ev sc 404 6259 (kk + 1) (6 * kk + 6) M_Law_law 352 [(0, .ref 1000000), (1, .ref 0), (2, .ref 12), (3, .ref 30), (4, .int x4)] [] (eLV :: (HD d (HF f (HW w (HM m (HS s (HG g (HR r (HO o tl))))))))) (mapR ouI (fun z => (eLV :: (HD z.1 (HF z.2.1 (HW z.2.2.1 (HM z.2.2.2.1 (HS z.2.2.2.2.1 (HG z.2.2.2.2.2.1 (HR z.2.2.2.2.2.2.1 (HO z.2.2.2.2.2.2.2 tl)))))))))) (B_Law_law_352 sc r23 d f w m s g r o x4)) := by
  unfold B_Law_law_352
  refine ev_aload_n d_Law_law_352 rfl rfl ?_
  refine ev_aload_n d_Law_law_353 rfl rfl ?_
  refine ev_iload d_Law_law_354 rfl ?_
  refine ev_iconst (v := 1) d_Law_law_356 rfl ?_
  refine ev_iadd d_Law_law_357 ?_
  refine ev_inB (fun h1 => ?_)
  refine ev_sld (inB_of h1) d_Law_law_358 ?_
  refine ev_aload_n d_Law_law_359 rfl rfl ?_
  refine ev_iload d_Law_law_360 rfl ?_
  refine ev_iconst (v := 2) d_Law_law_362 rfl ?_
  refine ev_iadd d_Law_law_363 ?_
  refine ev_inB (fun h2 => ?_)
  refine ev_sld (inB_of h2) d_Law_law_364 ?_
  refine ev_aload_n d_Law_law_365 rfl rfl ?_
  refine ev_iload d_Law_law_366 rfl ?_
  refine ev_iconst (v := 3) d_Law_law_368 rfl ?_
  refine ev_iadd d_Law_law_369 ?_
  refine ev_inB (fun h3 => ?_)
  refine ev_sld (inB_of h3) d_Law_law_370 ?_
  refine ev_callBK (k1 := 1) (n1 := 6) (k2 := kk) (n2 := 6 * kk) (rc := (f_Law_write d f w m s g r o (sc.2 (x4 + 1).toNatClampNeg) (sc.2 (x4 + 2).toNatClampNeg) (sc.2 (x4 + 3).toNatClampNeg))) (ou := ouI) (Hs := (fun z => (eLV :: (HD z.1 (HF z.2.1 (HW w (HM z.2.2 (HS s (HG g (HR r (HO o tl))))))))))) (inv_S (av := [.ref 0, .int (sc.2 (x4 + 1).toNatClampNeg), .int (sc.2 (x4 + 2).toNatClampNeg), .int (sc.2 (x4 + 3).toNatClampNeg)]) (rest := []) d_Law_law_371 gw_899 gw_900 gw_101 mw_Law_write nh_Law_write pn_Law_write rfl) d_Law_law_371 pl_Law_write (Nat.le_of_ble_eq_true rfl) (Nat.le_of_ble_eq_true rfl) (Nat.le_of_ble_eq_true rfl) (by omega) (by omega) (e_f_Law_write (tl := tl)  d f w m s g r o (sc.2 (x4 + 1).toNatClampNeg) (sc.2 (x4 + 2).toNatClampNeg) (sc.2 (x4 + 3).toNatClampNeg)) (fun _ => (len1 (lenHD (lenHF (lenHW (lenHM (lenHS (lenHG (lenHR (lenHO rfl)))))))))) (fun v z h4 => ⟨_, rfl, ?_⟩)
  exact ev_pick [0, 1, 2, 3, 4] rfl (ev_widen (Nat.le_refl _) (Nat.le_refl _) (by omega) (by omega) (e_B_Law_law_374   r23 hr23 z.1 z.2.1 w z.2.2 s g r o x4 v))
def B_Law_law_446 (sc : Nat × (Nat → Int32)) (r23 : DS → FS → WS → MS → SS → GS → RS → OS → Int32 → Option (Int32 × (DS × FS × WS × MS × SS × GS × RS × OS))) (d : DS) (f : FS) (w : WS) (m : MS) (s : SS) (g : GS) (r : RS) (o : OS) (x4 : Int32) (x5 : Int32) : Option (Int32 × (DS × FS × WS × MS × SS × GS × RS × OS)) :=
  if ((f_Mod_thrown r).1) = x5 then (B_Law_law_948 sc r23 d f w m s g r o x4) else (some (0, (d, f, w, m, s, g, r, o)))
theorem e_B_Law_law_446 {sc : Nat × (Nat → Int32)} {tl : List mn_E} {kk : Nat} (r23 : DS → FS → WS → MS → SS → GS → RS → OS → Int32 → Option (Int32 × (DS × FS × WS × MS × SS × GS × RS × OS))) (hr23 : ∀ (d : DS) (f : FS) (w : WS) (m : MS) (s : SS) (g : GS) (r : RS) (o : OS) (x4 : Int32), Ev sc 404 6259 kk (6 * kk) M_Law_law 23 [(0, .ref 1000000), (1, .ref 0), (2, .ref 12), (3, .ref 30), (4, .int x4)] [] (eLV :: (HD d (HF f (HW w (HM m (HS s (HG g (HR r (HO o tl))))))))) (mapR ouI (fun z => (eLV :: (HD z.1 (HF z.2.1 (HW z.2.2.1 (HM z.2.2.2.1 (HS z.2.2.2.2.1 (HG z.2.2.2.2.2.1 (HR z.2.2.2.2.2.2.1 (HO z.2.2.2.2.2.2.2 tl)))))))))) (r23 d f w m s g r o x4))) (d : DS) (f : FS) (w : WS) (m : MS) (s : SS) (g : GS) (r : RS) (o : OS) (x4 : Int32) (x5 : Int32) : Ev sc 404 6259 (kk + 0) (6 * kk + 0) M_Law_law 446 [(0, .ref 1000000), (1, .ref 0), (2, .ref 12), (3, .ref 30), (4, .int x4), (5, .int x5)] [] (eLV :: (HD d (HF f (HW w (HM m (HS s (HG g (HR r (HO o tl))))))))) (mapR ouI (fun z => (eLV :: (HD z.1 (HF z.2.1 (HW z.2.2.1 (HM z.2.2.2.1 (HS z.2.2.2.2.1 (HG z.2.2.2.2.2.1 (HR z.2.2.2.2.2.2.1 (HO z.2.2.2.2.2.2.2 tl)))))))))) (B_Law_law_446 sc r23 d f w m s g r o x4 x5)) := by
  unfold B_Law_law_446
  refine ev_aload_n d_Law_law_446 rfl rfl ?_
  refine ev_callr (Mc := M_Mod_thrown) (v := some (.int ((f_Mod_thrown r).1))) (h1 := (eLV :: (HD d (HF f (HW w (HM m (HS s (HG g (HR r (HO o tl)))))))))) (k1 := 0) (n1 := 0) (inv_V (q := 12) (av := []) (rest := []) rfl (ci := 6) rfl d_Law_law_447 gw_1092 gw_1093 gw_1094 mw_Mod_thrown nh_Mod_thrown pn_Mod_thrown rfl) d_Law_law_447 pl_Mod_thrown (Nat.le_of_ble_eq_true rfl) (Nat.le_of_ble_eq_true rfl) (Nat.le_of_ble_eq_true rfl) (Nat.zero_add _) (Nat.zero_add _) (e_f_Mod_thrown (tl := (HO o tl)) (d := d) (f := f) (w := w) (m := m) (s := s) (g := g)  r ) (Or.inl (len1 (lenHD (lenHF (lenHW (lenHM (lenHS (lenHG (lenHR (lenHO rfl)))))))))) ?_
  refine ev_iload d_Law_law_450 rfl ?_
  refine ev_icmp_eq (tgt := 457) d_Law_law_452 rfl (fun h1 => ?_) (fun h1 => ?_)
  · rw [if_pos h1]
    refine ev_goto (tgt := 948) d_Law_law_457 rfl ?_
    exact ev_pick [0, 1, 2, 3, 4] rfl (ev_widen (Nat.le_refl _) (Nat.le_refl _) (by omega) (by omega) (e_B_Law_law_948   r23 hr23 d f w m s g r o x4))
  · rw [if_neg h1]
    refine ev_iconst (v := 0) d_Law_law_455 rfl ?_
    exact ev_widen (Nat.zero_le _) (Nat.zero_le _) (Nat.zero_le _) (Nat.zero_le _) (ev_zret (ty := .boolean) rfl rfl d_Law_law_456)
def B_Law_law_428 (sc : Nat × (Nat → Int32)) (r23 : DS → FS → WS → MS → SS → GS → RS → OS → Int32 → Option (Int32 × (DS × FS × WS × MS × SS × GS × RS × OS))) (d : DS) (f : FS) (w : WS) (m : MS) (s : SS) (g : GS) (r : RS) (o : OS) (x4 : Int32) (t0 : Int32) : Option (Int32 × (DS × FS × WS × MS × SS × GS × RS × OS)) :=
  if inB (x4 + 1) sc.1 then (if inB (x4 + 2) sc.1 then (bnd (f_Mod_shorten r (sc.2 (x4 + 1).toNatClampNeg) (sc.2 (x4 + 2).toNatClampNeg)) (fun q => B_Law_law_446 sc r23 d f w m s g q.2 o x4 t0)) else none) else none
theorem e_B_Law_law_428 {sc : Nat × (Nat → Int32)} {tl : List mn_E} {kk : Nat} (r23 : DS → FS → WS → MS → SS → GS → RS → OS → Int32 → Option (Int32 × (DS × FS × WS × MS × SS × GS × RS × OS))) (hr23 : ∀ (d : DS) (f : FS) (w : WS) (m : MS) (s : SS) (g : GS) (r : RS) (o : OS) (x4 : Int32), Ev sc 404 6259 kk (6 * kk) M_Law_law 23 [(0, .ref 1000000), (1, .ref 0), (2, .ref 12), (3, .ref 30), (4, .int x4)] [] (eLV :: (HD d (HF f (HW w (HM m (HS s (HG g (HR r (HO o tl))))))))) (mapR ouI (fun z => (eLV :: (HD z.1 (HF z.2.1 (HW z.2.2.1 (HM z.2.2.2.1 (HS z.2.2.2.2.1 (HG z.2.2.2.2.2.1 (HR z.2.2.2.2.2.2.1 (HO z.2.2.2.2.2.2.2 tl)))))))))) (r23 d f w m s g r o x4))) (d : DS) (f : FS) (w : WS) (m : MS) (s : SS) (g : GS) (r : RS) (o : OS) (x4 : Int32) (t0 : Int32) : Ev sc 404 6259 (kk + 0) (6 * kk + 0) M_Law_law 428 [(0, .ref 1000000), (1, .ref 0), (2, .ref 12), (3, .ref 30), (4, .int x4)] [.int t0] (eLV :: (HD d (HF f (HW w (HM m (HS s (HG g (HR r (HO o tl))))))))) (mapR ouI (fun z => (eLV :: (HD z.1 (HF z.2.1 (HW z.2.2.1 (HM z.2.2.2.1 (HS z.2.2.2.2.1 (HG z.2.2.2.2.2.1 (HR z.2.2.2.2.2.2.1 (HO z.2.2.2.2.2.2.2 tl)))))))))) (B_Law_law_428 sc r23 d f w m s g r o x4 t0)) := by
  unfold B_Law_law_428
  refine ev_istore d_Law_law_428 (by decide) rfl ?_
  refine ev_aload_n d_Law_law_430 rfl rfl ?_
  refine ev_aload_n d_Law_law_431 rfl rfl ?_
  refine ev_iload d_Law_law_432 rfl ?_
  refine ev_iconst (v := 1) d_Law_law_434 rfl ?_
  refine ev_iadd d_Law_law_435 ?_
  refine ev_inB (fun h1 => ?_)
  refine ev_sld (inB_of h1) d_Law_law_436 ?_
  refine ev_aload_n d_Law_law_437 rfl rfl ?_
  refine ev_iload d_Law_law_438 rfl ?_
  refine ev_iconst (v := 2) d_Law_law_440 rfl ?_
  refine ev_iadd d_Law_law_441 ?_
  refine ev_inB (fun h2 => ?_)
  refine ev_sld (inB_of h2) d_Law_law_442 ?_
  refine ev_callBK (k1 := 0) (n1 := 0) (rc := (f_Mod_shorten r (sc.2 (x4 + 1).toNatClampNeg) (sc.2 (x4 + 2).toNatClampNeg))) (ou := ouV) (Hs := (fun z => (eLV :: (HD d (HF f (HW w (HM m (HS s (HG g (HR z (HO o tl))))))))))) (inv_V (q := 12) (av := [.int (sc.2 (x4 + 1).toNatClampNeg), .int (sc.2 (x4 + 2).toNatClampNeg)]) (rest := []) rfl (ci := 6) rfl d_Law_law_443 gw_1223 gw_1224 gw_1225 mw_Mod_shorten nh_Mod_shorten pn_Mod_shorten rfl) d_Law_law_443 pl_Mod_shorten (Nat.le_of_ble_eq_true rfl) (Nat.le_of_ble_eq_true rfl) (Nat.le_of_ble_eq_true rfl) (Nat.zero_add _) (Nat.zero_add _) (e_f_Mod_shorten (tl := (HO o tl)) (d := d) (f := f) (w := w) (m := m) (s := s) (g := g)  r (sc.2 (x4 + 1).toNatClampNeg) (sc.2 (x4 + 2).toNatClampNeg)) (fun _ => (len1 (lenHD (lenHF (lenHW (lenHM (lenHS (lenHG (lenHR (lenHO rfl)))))))))) (fun v z h3 => ⟨_, rfl, ?_⟩)
  exact ev_pick [1, 2, 3, 4, 5, 0] rfl (ev_widen (Nat.le_refl _) (Nat.le_refl _) (by omega) (by omega) (e_B_Law_law_446   r23 hr23 d f w m s g z o x4 t0))
def B_Law_law_412 (sc : Nat × (Nat → Int32)) (r23 : DS → FS → WS → MS → SS → GS → RS → OS → Int32 → Option (Int32 × (DS × FS × WS × MS × SS × GS × RS × OS))) (d : DS) (f : FS) (w : WS) (m : MS) (s : SS) (g : GS) (r : RS) (o : OS) (x4 : Int32) : Option (Int32 × (DS × FS × WS × MS × SS × GS × RS × OS)) :=
  if inB (x4 + 1) sc.1 then (if inB (x4 + 2) sc.1 then (bnd (f_Law_shorten d f w m s g r o (sc.2 (x4 + 1).toNatClampNeg) (sc.2 (x4 + 2).toNatClampNeg)) (fun q => B_Law_law_428 sc r23 q.2.1 q.2.2.1 w q.2.2.2.1 s q.2.2.2.2 r o x4 q.1)) else none) else none
theorem e_B_Law_law_412 {sc : Nat × (Nat → Int32)} {tl : List mn_E} {kk : Nat} (r23 : DS → FS → WS → MS → SS → GS → RS → OS → Int32 → Option (Int32 × (DS × FS × WS × MS × SS × GS × RS × OS))) (hr23 : ∀ (d : DS) (f : FS) (w : WS) (m : MS) (s : SS) (g : GS) (r : RS) (o : OS) (x4 : Int32), Ev sc 404 6259 kk (6 * kk) M_Law_law 23 [(0, .ref 1000000), (1, .ref 0), (2, .ref 12), (3, .ref 30), (4, .int x4)] [] (eLV :: (HD d (HF f (HW w (HM m (HS s (HG g (HR r (HO o tl))))))))) (mapR ouI (fun z => (eLV :: (HD z.1 (HF z.2.1 (HW z.2.2.1 (HM z.2.2.2.1 (HS z.2.2.2.2.1 (HG z.2.2.2.2.2.1 (HR z.2.2.2.2.2.2.1 (HO z.2.2.2.2.2.2.2 tl)))))))))) (r23 d f w m s g r o x4))) (d : DS) (f : FS) (w : WS) (m : MS) (s : SS) (g : GS) (r : RS) (o : OS) (x4 : Int32) : Ev sc 404 6259 (kk + 1) (6 * kk + 6) M_Law_law 412 [(0, .ref 1000000), (1, .ref 0), (2, .ref 12), (3, .ref 30), (4, .int x4)] [] (eLV :: (HD d (HF f (HW w (HM m (HS s (HG g (HR r (HO o tl))))))))) (mapR ouI (fun z => (eLV :: (HD z.1 (HF z.2.1 (HW z.2.2.1 (HM z.2.2.2.1 (HS z.2.2.2.2.1 (HG z.2.2.2.2.2.1 (HR z.2.2.2.2.2.2.1 (HO z.2.2.2.2.2.2.2 tl)))))))))) (B_Law_law_412 sc r23 d f w m s g r o x4)) := by
  unfold B_Law_law_412
  refine ev_aload_n d_Law_law_412 rfl rfl ?_
  refine ev_aload_n d_Law_law_413 rfl rfl ?_
  refine ev_iload d_Law_law_414 rfl ?_
  refine ev_iconst (v := 1) d_Law_law_416 rfl ?_
  refine ev_iadd d_Law_law_417 ?_
  refine ev_inB (fun h1 => ?_)
  refine ev_sld (inB_of h1) d_Law_law_418 ?_
  refine ev_aload_n d_Law_law_419 rfl rfl ?_
  refine ev_iload d_Law_law_420 rfl ?_
  refine ev_iconst (v := 2) d_Law_law_422 rfl ?_
  refine ev_iadd d_Law_law_423 ?_
  refine ev_inB (fun h2 => ?_)
  refine ev_sld (inB_of h2) d_Law_law_424 ?_
  refine ev_callBK (k1 := 1) (n1 := 6) (k2 := kk) (n2 := 6 * kk) (rc := (f_Law_shorten d f w m s g r o (sc.2 (x4 + 1).toNatClampNeg) (sc.2 (x4 + 2).toNatClampNeg))) (ou := ouI) (Hs := (fun z => (eLV :: (HD z.1 (HF z.2.1 (HW w (HM z.2.2.1 (HS s (HG z.2.2.2 (HR r (HO o tl))))))))))) (inv_S (av := [.ref 0, .int (sc.2 (x4 + 1).toNatClampNeg), .int (sc.2 (x4 + 2).toNatClampNeg)]) (rest := []) d_Law_law_425 gw_914 gw_915 gw_101 mw_Law_shorten nh_Law_shorten pn_Law_shorten rfl) d_Law_law_425 pl_Law_shorten (Nat.le_of_ble_eq_true rfl) (Nat.le_of_ble_eq_true rfl) (Nat.le_of_ble_eq_true rfl) (by omega) (by omega) (e_f_Law_shorten (tl := tl)  d f w m s g r o (sc.2 (x4 + 1).toNatClampNeg) (sc.2 (x4 + 2).toNatClampNeg)) (fun _ => (len1 (lenHD (lenHF (lenHW (lenHM (lenHS (lenHG (lenHR (lenHO rfl)))))))))) (fun v z h3 => ⟨_, rfl, ?_⟩)
  exact ev_pick [0, 1, 2, 3, 4] rfl (ev_widen (Nat.le_refl _) (Nat.le_refl _) (by omega) (by omega) (e_B_Law_law_428   r23 hr23 z.1 z.2.1 w z.2.2.1 s z.2.2.2 r o x4 v))
def B_Law_law_525 (sc : Nat × (Nat → Int32)) (r23 : DS → FS → WS → MS → SS → GS → RS → OS → Int32 → Option (Int32 × (DS × FS × WS × MS × SS × GS × RS × OS))) (d : DS) (f : FS) (w : WS) (m : MS) (s : SS) (g : GS) (r : RS) (o : OS) (x4 : Int32) : Option (Int32 × (DS × FS × WS × MS × SS × GS × RS × OS)) :=
  B_Law_law_948 sc r23 d f w m s g r o x4
theorem e_B_Law_law_525 {sc : Nat × (Nat → Int32)} {tl : List mn_E} {kk : Nat} (r23 : DS → FS → WS → MS → SS → GS → RS → OS → Int32 → Option (Int32 × (DS × FS × WS × MS × SS × GS × RS × OS))) (hr23 : ∀ (d : DS) (f : FS) (w : WS) (m : MS) (s : SS) (g : GS) (r : RS) (o : OS) (x4 : Int32), Ev sc 404 6259 kk (6 * kk) M_Law_law 23 [(0, .ref 1000000), (1, .ref 0), (2, .ref 12), (3, .ref 30), (4, .int x4)] [] (eLV :: (HD d (HF f (HW w (HM m (HS s (HG g (HR r (HO o tl))))))))) (mapR ouI (fun z => (eLV :: (HD z.1 (HF z.2.1 (HW z.2.2.1 (HM z.2.2.2.1 (HS z.2.2.2.2.1 (HG z.2.2.2.2.2.1 (HR z.2.2.2.2.2.2.1 (HO z.2.2.2.2.2.2.2 tl)))))))))) (r23 d f w m s g r o x4))) (d : DS) (f : FS) (w : WS) (m : MS) (s : SS) (g : GS) (r : RS) (o : OS) (x4 : Int32) : Ev sc 404 6259 (kk + 0) (6 * kk + 0) M_Law_law 525 [(0, .ref 1000000), (1, .ref 0), (2, .ref 12), (3, .ref 30), (4, .int x4)] [] (eLV :: (HD d (HF f (HW w (HM m (HS s (HG g (HR r (HO o tl))))))))) (mapR ouI (fun z => (eLV :: (HD z.1 (HF z.2.1 (HW z.2.2.1 (HM z.2.2.2.1 (HS z.2.2.2.2.1 (HG z.2.2.2.2.2.1 (HR z.2.2.2.2.2.2.1 (HO z.2.2.2.2.2.2.2 tl)))))))))) (B_Law_law_525 sc r23 d f w m s g r o x4)) := by
  unfold B_Law_law_525
  refine ev_goto (tgt := 948) d_Law_law_525 rfl ?_
  exact ev_pick [0, 1, 2, 3, 4] rfl (ev_widen (Nat.le_refl _) (Nat.le_refl _) (by omega) (by omega) (e_B_Law_law_948   r23 hr23 d f w m s g r o x4))
def B_Law_law_495 (sc : Nat × (Nat → Int32)) (r23 : DS → FS → WS → MS → SS → GS → RS → OS → Int32 → Option (Int32 × (DS × FS × WS × MS × SS × GS × RS × OS))) (d : DS) (f : FS) (w : WS) (m : MS) (s : SS) (g : GS) (r : RS) (o : OS) (x4 : Int32) (x5 : Int32) (t0 : Int32) : Option (Int32 × (DS × FS × WS × MS × SS × GS × RS × OS)) :=
  if ((f_Mod_thrown r).1) = x5 then (if ¬ x5 = 0 then (B_Law_law_525 sc r23 d f w m s g r o x4) else (if inB 0 1 then (if (lg_cmp (oOut o (0 : Int32).toNatClampNeg) t0.toInt64) = 0 then (B_Law_law_525 sc r23 d f w m s g r o x4) else (some (0, (d, f, w, m, s, g, r, o)))) else none)) else (some (0, (d, f, w, m, s, g, r, o)))
theorem e_B_Law_law_495 {sc : Nat × (Nat → Int32)} {tl : List mn_E} {kk : Nat} (r23 : DS → FS → WS → MS → SS → GS → RS → OS → Int32 → Option (Int32 × (DS × FS × WS × MS × SS × GS × RS × OS))) (hr23 : ∀ (d : DS) (f : FS) (w : WS) (m : MS) (s : SS) (g : GS) (r : RS) (o : OS) (x4 : Int32), Ev sc 404 6259 kk (6 * kk) M_Law_law 23 [(0, .ref 1000000), (1, .ref 0), (2, .ref 12), (3, .ref 30), (4, .int x4)] [] (eLV :: (HD d (HF f (HW w (HM m (HS s (HG g (HR r (HO o tl))))))))) (mapR ouI (fun z => (eLV :: (HD z.1 (HF z.2.1 (HW z.2.2.1 (HM z.2.2.2.1 (HS z.2.2.2.2.1 (HG z.2.2.2.2.2.1 (HR z.2.2.2.2.2.2.1 (HO z.2.2.2.2.2.2.2 tl)))))))))) (r23 d f w m s g r o x4))) (d : DS) (f : FS) (w : WS) (m : MS) (s : SS) (g : GS) (r : RS) (o : OS) (x4 : Int32) (x5 : Int32) (t0 : Int32) : Ev sc 404 6259 (kk + 0) (6 * kk + 0) M_Law_law 495 [(0, .ref 1000000), (1, .ref 0), (2, .ref 12), (3, .ref 30), (4, .int x4), (5, .int x5)] [.int t0] (eLV :: (HD d (HF f (HW w (HM m (HS s (HG g (HR r (HO o tl))))))))) (mapR ouI (fun z => (eLV :: (HD z.1 (HF z.2.1 (HW z.2.2.1 (HM z.2.2.2.1 (HS z.2.2.2.2.1 (HG z.2.2.2.2.2.1 (HR z.2.2.2.2.2.2.1 (HO z.2.2.2.2.2.2.2 tl)))))))))) (B_Law_law_495 sc r23 d f w m s g r o x4 x5 t0)) := by
  unfold B_Law_law_495
  refine ev_istore d_Law_law_495 (by decide) rfl ?_
  refine ev_aload_n d_Law_law_497 rfl rfl ?_
  refine ev_callr (Mc := M_Mod_thrown) (v := some (.int ((f_Mod_thrown r).1))) (h1 := (eLV :: (HD d (HF f (HW w (HM m (HS s (HG g (HR r (HO o tl)))))))))) (k1 := 0) (n1 := 0) (inv_V (q := 12) (av := []) (rest := []) rfl (ci := 6) rfl d_Law_law_498 gw_1092 gw_1093 gw_1094 mw_Mod_thrown nh_Mod_thrown pn_Mod_thrown rfl) d_Law_law_498 pl_Mod_thrown (Nat.le_of_ble_eq_true rfl) (Nat.le_of_ble_eq_true rfl) (Nat.le_of_ble_eq_true rfl) (Nat.zero_add _) (Nat.zero_add _) (e_f_Mod_thrown (tl := (HO o tl)) (d := d) (f := f) (w := w) (m := m) (s := s) (g := g)  r ) (Or.inl (len1 (lenHD (lenHF (lenHW (lenHM (lenHS (lenHG (lenHR (lenHO rfl)))))))))) ?_
  refine ev_iload d_Law_law_501 rfl ?_
  refine ev_icmp_eq (tgt := 508) d_Law_law_503 rfl (fun h1 => ?_) (fun h1 => ?_)
  · rw [if_pos h1]
    refine ev_iload d_Law_law_508 rfl ?_
    refine ev_if_ne (tgt := 525) d_Law_law_510 rfl (fun h2 => ?_) (fun h2 => ?_)
    · rw [if_pos h2]
      exact ev_pick [1, 2, 3, 4, 5] rfl (ev_widen (Nat.le_refl _) (Nat.le_refl _) (by omega) (by omega) (e_B_Law_law_525   r23 hr23 d f w m s g r o x4))
    · rw [if_neg h2]
      refine ev_aload_n d_Law_law_513 rfl rfl ?_
      refine ev_iconst (v := 0) d_Law_law_514 rfl ?_
      refine ev_inB (fun h3 => ?_)
      refine ev_laload rfl (inB_of h3) d_Law_law_515 ?_
      refine ev_iload d_Law_law_516 rfl ?_
      refine ev_i2l d_Law_law_518 ?_
      refine ev_lcmp d_Law_law_519 ?_
      refine ev_if_eq (tgt := 525) d_Law_law_520 rfl (fun h4 => ?_) (fun h4 => ?_)
      · rw [if_pos h4]
        exact ev_pick [1, 2, 3, 4, 5] rfl (ev_widen (Nat.le_refl _) (Nat.le_refl _) (by omega) (by omega) (e_B_Law_law_525   r23 hr23 d f w m s g r o x4))
      · rw [if_neg h4]
        refine ev_iconst (v := 0) d_Law_law_523 rfl ?_
        exact ev_widen (Nat.zero_le _) (Nat.zero_le _) (Nat.zero_le _) (Nat.zero_le _) (ev_zret (ty := .boolean) rfl rfl d_Law_law_524)
  · rw [if_neg h1]
    refine ev_iconst (v := 0) d_Law_law_506 rfl ?_
    exact ev_widen (Nat.zero_le _) (Nat.zero_le _) (Nat.zero_le _) (Nat.zero_le _) (ev_zret (ty := .boolean) rfl rfl d_Law_law_507)
def B_Law_law_477 (sc : Nat × (Nat → Int32)) (r23 : DS → FS → WS → MS → SS → GS → RS → OS → Int32 → Option (Int32 × (DS × FS × WS × MS × SS × GS × RS × OS))) (d : DS) (f : FS) (w : WS) (m : MS) (s : SS) (g : GS) (r : RS) (o : OS) (x4 : Int32) (t0 : Int32) : Option (Int32 × (DS × FS × WS × MS × SS × GS × RS × OS)) :=
  if inB (x4 + 1) sc.1 then (if inB (x4 + 2) sc.1 then (bnd (f_Mod_remove r (sc.2 (x4 + 1).toNatClampNeg) (sc.2 (x4 + 2).toNatClampNeg)) (fun q => B_Law_law_495 sc r23 d f w m s g q.2 o x4 t0 q.1)) else none) else none
theorem e_B_Law_law_477 {sc : Nat × (Nat → Int32)} {tl : List mn_E} {kk : Nat} (r23 : DS → FS → WS → MS → SS → GS → RS → OS → Int32 → Option (Int32 × (DS × FS × WS × MS × SS × GS × RS × OS))) (hr23 : ∀ (d : DS) (f : FS) (w : WS) (m : MS) (s : SS) (g : GS) (r : RS) (o : OS) (x4 : Int32), Ev sc 404 6259 kk (6 * kk) M_Law_law 23 [(0, .ref 1000000), (1, .ref 0), (2, .ref 12), (3, .ref 30), (4, .int x4)] [] (eLV :: (HD d (HF f (HW w (HM m (HS s (HG g (HR r (HO o tl))))))))) (mapR ouI (fun z => (eLV :: (HD z.1 (HF z.2.1 (HW z.2.2.1 (HM z.2.2.2.1 (HS z.2.2.2.2.1 (HG z.2.2.2.2.2.1 (HR z.2.2.2.2.2.2.1 (HO z.2.2.2.2.2.2.2 tl)))))))))) (r23 d f w m s g r o x4))) (d : DS) (f : FS) (w : WS) (m : MS) (s : SS) (g : GS) (r : RS) (o : OS) (x4 : Int32) (t0 : Int32) : Ev sc 404 6259 (kk + 0) (6 * kk + 0) M_Law_law 477 [(0, .ref 1000000), (1, .ref 0), (2, .ref 12), (3, .ref 30), (4, .int x4)] [.int t0] (eLV :: (HD d (HF f (HW w (HM m (HS s (HG g (HR r (HO o tl))))))))) (mapR ouI (fun z => (eLV :: (HD z.1 (HF z.2.1 (HW z.2.2.1 (HM z.2.2.2.1 (HS z.2.2.2.2.1 (HG z.2.2.2.2.2.1 (HR z.2.2.2.2.2.2.1 (HO z.2.2.2.2.2.2.2 tl)))))))))) (B_Law_law_477 sc r23 d f w m s g r o x4 t0)) := by
  unfold B_Law_law_477
  refine ev_istore d_Law_law_477 (by decide) rfl ?_
  refine ev_aload_n d_Law_law_479 rfl rfl ?_
  refine ev_aload_n d_Law_law_480 rfl rfl ?_
  refine ev_iload d_Law_law_481 rfl ?_
  refine ev_iconst (v := 1) d_Law_law_483 rfl ?_
  refine ev_iadd d_Law_law_484 ?_
  refine ev_inB (fun h1 => ?_)
  refine ev_sld (inB_of h1) d_Law_law_485 ?_
  refine ev_aload_n d_Law_law_486 rfl rfl ?_
  refine ev_iload d_Law_law_487 rfl ?_
  refine ev_iconst (v := 2) d_Law_law_489 rfl ?_
  refine ev_iadd d_Law_law_490 ?_
  refine ev_inB (fun h2 => ?_)
  refine ev_sld (inB_of h2) d_Law_law_491 ?_
  refine ev_callBK (k1 := 0) (n1 := 0) (rc := (f_Mod_remove r (sc.2 (x4 + 1).toNatClampNeg) (sc.2 (x4 + 2).toNatClampNeg))) (ou := ouI) (Hs := (fun z => (eLV :: (HD d (HF f (HW w (HM m (HS s (HG g (HR z (HO o tl))))))))))) (inv_V (q := 12) (av := [.int (sc.2 (x4 + 1).toNatClampNeg), .int (sc.2 (x4 + 2).toNatClampNeg)]) (rest := []) rfl (ci := 6) rfl d_Law_law_492 gw_1239 gw_1240 gw_1241 mw_Mod_remove nh_Mod_remove pn_Mod_remove rfl) d_Law_law_492 pl_Mod_remove (Nat.le_of_ble_eq_true rfl) (Nat.le_of_ble_eq_true rfl) (Nat.le_of_ble_eq_true rfl) (Nat.zero_add _) (Nat.zero_add _) (e_f_Mod_remove (tl := (HO o tl)) (d := d) (f := f) (w := w) (m := m) (s := s) (g := g)  r (sc.2 (x4 + 1).toNatClampNeg) (sc.2 (x4 + 2).toNatClampNeg)) (fun _ => (len1 (lenHD (lenHF (lenHW (lenHM (lenHS (lenHG (lenHR (lenHO rfl)))))))))) (fun v z h3 => ⟨_, rfl, ?_⟩)
  exact ev_pick [1, 2, 3, 4, 5, 0] rfl (ev_widen (Nat.le_refl _) (Nat.le_refl _) (by omega) (by omega) (e_B_Law_law_495   r23 hr23 d f w m s g z o x4 t0 v))
def B_Law_law_460 (sc : Nat × (Nat → Int32)) (r23 : DS → FS → WS → MS → SS → GS → RS → OS → Int32 → Option (Int32 × (DS × FS × WS × MS × SS × GS × RS × OS))) (d : DS) (f : FS) (w : WS) (m : MS) (s : SS) (g : GS) (r : RS) (o : OS) (x4 : Int32) : Option (Int32 × (DS × FS × WS × MS × SS × GS × RS × OS)) :=
  if inB (x4 + 1) sc.1 then (if inB (x4 + 2) sc.1 then (bnd (f_Law_remove d f w m s g r o (sc.2 (x4 + 1).toNatClampNeg) (sc.2 (x4 + 2).toNatClampNeg)) (fun q => B_Law_law_477 sc r23 q.2.1 q.2.2.1 q.2.2.2.1 q.2.2.2.2.1 s q.2.2.2.2.2.1 r q.2.2.2.2.2.2 x4 q.1)) else none) else none
theorem e_B_Law_law_460 {sc : Nat × (Nat → Int32)} {tl : List mn_E} {kk : Nat} (r23 : DS → FS → WS → MS → SS → GS → RS → OS → Int32 → Option (Int32 × (DS × FS × WS × MS × SS × GS × RS × OS))) (hr23 : ∀ (d : DS) (f : FS) (w : WS) (m : MS) (s : SS) (g : GS) (r : RS) (o : OS) (x4 : Int32), Ev sc 404 6259 kk (6 * kk) M_Law_law 23 [(0, .ref 1000000), (1, .ref 0), (2, .ref 12), (3, .ref 30), (4, .int x4)] [] (eLV :: (HD d (HF f (HW w (HM m (HS s (HG g (HR r (HO o tl))))))))) (mapR ouI (fun z => (eLV :: (HD z.1 (HF z.2.1 (HW z.2.2.1 (HM z.2.2.2.1 (HS z.2.2.2.2.1 (HG z.2.2.2.2.2.1 (HR z.2.2.2.2.2.2.1 (HO z.2.2.2.2.2.2.2 tl)))))))))) (r23 d f w m s g r o x4))) (d : DS) (f : FS) (w : WS) (m : MS) (s : SS) (g : GS) (r : RS) (o : OS) (x4 : Int32) : Ev sc 404 6259 (kk + 1) (6 * kk + 6) M_Law_law 460 [(0, .ref 1000000), (1, .ref 0), (2, .ref 12), (3, .ref 30), (4, .int x4)] [] (eLV :: (HD d (HF f (HW w (HM m (HS s (HG g (HR r (HO o tl))))))))) (mapR ouI (fun z => (eLV :: (HD z.1 (HF z.2.1 (HW z.2.2.1 (HM z.2.2.2.1 (HS z.2.2.2.2.1 (HG z.2.2.2.2.2.1 (HR z.2.2.2.2.2.2.1 (HO z.2.2.2.2.2.2.2 tl)))))))))) (B_Law_law_460 sc r23 d f w m s g r o x4)) := by
  unfold B_Law_law_460
  refine ev_aload_n d_Law_law_460 rfl rfl ?_
  refine ev_aload_n d_Law_law_461 rfl rfl ?_
  refine ev_iload d_Law_law_462 rfl ?_
  refine ev_iconst (v := 1) d_Law_law_464 rfl ?_
  refine ev_iadd d_Law_law_465 ?_
  refine ev_inB (fun h1 => ?_)
  refine ev_sld (inB_of h1) d_Law_law_466 ?_
  refine ev_aload_n d_Law_law_467 rfl rfl ?_
  refine ev_iload d_Law_law_468 rfl ?_
  refine ev_iconst (v := 2) d_Law_law_470 rfl ?_
  refine ev_iadd d_Law_law_471 ?_
  refine ev_inB (fun h2 => ?_)
  refine ev_sld (inB_of h2) d_Law_law_472 ?_
  refine ev_aload_n d_Law_law_473 rfl rfl ?_
  refine ev_callBK (k1 := 1) (n1 := 6) (k2 := kk) (n2 := 6 * kk) (rc := (f_Law_remove d f w m s g r o (sc.2 (x4 + 1).toNatClampNeg) (sc.2 (x4 + 2).toNatClampNeg))) (ou := ouI) (Hs := (fun z => (eLV :: (HD z.1 (HF z.2.1 (HW z.2.2.1 (HM z.2.2.2.1 (HS s (HG z.2.2.2.2.1 (HR r (HO z.2.2.2.2.2 tl))))))))))) (inv_S (av := [.ref 0, .int (sc.2 (x4 + 1).toNatClampNeg), .int (sc.2 (x4 + 2).toNatClampNeg), .ref 30]) (rest := []) d_Law_law_474 gw_948 gw_949 gw_101 mw_Law_remove nh_Law_remove pn_Law_remove rfl) d_Law_law_474 pl_Law_remove (Nat.le_of_ble_eq_true rfl) (Nat.le_of_ble_eq_true rfl) (Nat.le_of_ble_eq_true rfl) (by omega) (by omega) (e_f_Law_remove (tl := tl)  d f w m s g r o (sc.2 (x4 + 1).toNatClampNeg) (sc.2 (x4 + 2).toNatClampNeg)) (fun _ => (len1 (lenHD (lenHF (lenHW (lenHM (lenHS (lenHG (lenHR (lenHO rfl)))))))))) (fun v z h3 => ⟨_, rfl, ?_⟩)
  exact ev_pick [0, 1, 2, 3, 4] rfl (ev_widen (Nat.le_refl _) (Nat.le_refl _) (by omega) (by omega) (e_B_Law_law_477   r23 hr23 z.1 z.2.1 z.2.2.1 z.2.2.2.1 s z.2.2.2.2.1 r z.2.2.2.2.2 x4 v))
def B_Law_law_581 (sc : Nat × (Nat → Int32)) (r23 : DS → FS → WS → MS → SS → GS → RS → OS → Int32 → Option (Int32 × (DS × FS × WS × MS × SS × GS × RS × OS))) (d : DS) (f : FS) (w : WS) (m : MS) (s : SS) (g : GS) (r : RS) (o : OS) (x4 : Int32) : Option (Int32 × (DS × FS × WS × MS × SS × GS × RS × OS)) :=
  B_Law_law_948 sc r23 d f w m s g r o x4
theorem e_B_Law_law_581 {sc : Nat × (Nat → Int32)} {tl : List mn_E} {kk : Nat} (r23 : DS → FS → WS → MS → SS → GS → RS → OS → Int32 → Option (Int32 × (DS × FS × WS × MS × SS × GS × RS × OS))) (hr23 : ∀ (d : DS) (f : FS) (w : WS) (m : MS) (s : SS) (g : GS) (r : RS) (o : OS) (x4 : Int32), Ev sc 404 6259 kk (6 * kk) M_Law_law 23 [(0, .ref 1000000), (1, .ref 0), (2, .ref 12), (3, .ref 30), (4, .int x4)] [] (eLV :: (HD d (HF f (HW w (HM m (HS s (HG g (HR r (HO o tl))))))))) (mapR ouI (fun z => (eLV :: (HD z.1 (HF z.2.1 (HW z.2.2.1 (HM z.2.2.2.1 (HS z.2.2.2.2.1 (HG z.2.2.2.2.2.1 (HR z.2.2.2.2.2.2.1 (HO z.2.2.2.2.2.2.2 tl)))))))))) (r23 d f w m s g r o x4))) (d : DS) (f : FS) (w : WS) (m : MS) (s : SS) (g : GS) (r : RS) (o : OS) (x4 : Int32) : Ev sc 404 6259 (kk + 0) (6 * kk + 0) M_Law_law 581 [(0, .ref 1000000), (1, .ref 0), (2, .ref 12), (3, .ref 30), (4, .int x4)] [] (eLV :: (HD d (HF f (HW w (HM m (HS s (HG g (HR r (HO o tl))))))))) (mapR ouI (fun z => (eLV :: (HD z.1 (HF z.2.1 (HW z.2.2.1 (HM z.2.2.2.1 (HS z.2.2.2.2.1 (HG z.2.2.2.2.2.1 (HR z.2.2.2.2.2.2.1 (HO z.2.2.2.2.2.2.2 tl)))))))))) (B_Law_law_581 sc r23 d f w m s g r o x4)) := by
  unfold B_Law_law_581
  refine ev_goto (tgt := 948) d_Law_law_581 rfl ?_
  exact ev_pick [0, 1, 2, 3, 4] rfl (ev_widen (Nat.le_refl _) (Nat.le_refl _) (by omega) (by omega) (e_B_Law_law_948   r23 hr23 d f w m s g r o x4))
def B_Law_law_551 (sc : Nat × (Nat → Int32)) (r23 : DS → FS → WS → MS → SS → GS → RS → OS → Int32 → Option (Int32 × (DS × FS × WS × MS × SS × GS × RS × OS))) (d : DS) (f : FS) (w : WS) (m : MS) (s : SS) (g : GS) (r : RS) (o : OS) (x4 : Int32) (x5 : Int32) (t0 : Int32) : Option (Int32 × (DS × FS × WS × MS × SS × GS × RS × OS)) :=
  if ((f_Mod_thrown r).1) = x5 then (if ¬ x5 = 0 then (B_Law_law_581 sc r23 d f w m s g r o x4) else (if inB 0 1 then (if (lg_cmp (oOut o (0 : Int32).toNatClampNeg) t0.toInt64) = 0 then (B_Law_law_581 sc r23 d f w m s g r o x4) else (some (0, (d, f, w, m, s, g, r, o)))) else none)) else (some (0, (d, f, w, m, s, g, r, o)))
theorem e_B_Law_law_551 {sc : Nat × (Nat → Int32)} {tl : List mn_E} {kk : Nat} (r23 : DS → FS → WS → MS → SS → GS → RS → OS → Int32 → Option (Int32 × (DS × FS × WS × MS × SS × GS × RS × OS))) (hr23 : ∀ (d : DS) (f : FS) (w : WS) (m : MS) (s : SS) (g : GS) (r : RS) (o : OS) (x4 : Int32), Ev sc 404 6259 kk (6 * kk) M_Law_law 23 [(0, .ref 1000000), (1, .ref 0), (2, .ref 12), (3, .ref 30), (4, .int x4)] [] (eLV :: (HD d (HF f (HW w (HM m (HS s (HG g (HR r (HO o tl))))))))) (mapR ouI (fun z => (eLV :: (HD z.1 (HF z.2.1 (HW z.2.2.1 (HM z.2.2.2.1 (HS z.2.2.2.2.1 (HG z.2.2.2.2.2.1 (HR z.2.2.2.2.2.2.1 (HO z.2.2.2.2.2.2.2 tl)))))))))) (r23 d f w m s g r o x4))) (d : DS) (f : FS) (w : WS) (m : MS) (s : SS) (g : GS) (r : RS) (o : OS) (x4 : Int32) (x5 : Int32) (t0 : Int32) : Ev sc 404 6259 (kk + 0) (6 * kk + 0) M_Law_law 551 [(0, .ref 1000000), (1, .ref 0), (2, .ref 12), (3, .ref 30), (4, .int x4), (5, .int x5)] [.int t0] (eLV :: (HD d (HF f (HW w (HM m (HS s (HG g (HR r (HO o tl))))))))) (mapR ouI (fun z => (eLV :: (HD z.1 (HF z.2.1 (HW z.2.2.1 (HM z.2.2.2.1 (HS z.2.2.2.2.1 (HG z.2.2.2.2.2.1 (HR z.2.2.2.2.2.2.1 (HO z.2.2.2.2.2.2.2 tl)))))))))) (B_Law_law_551 sc r23 d f w m s g r o x4 x5 t0)) := by
  unfold B_Law_law_551
  refine ev_istore d_Law_law_551 (by decide) rfl ?_
  refine ev_aload_n d_Law_law_553 rfl rfl ?_
  refine ev_callr (Mc := M_Mod_thrown) (v := some (.int ((f_Mod_thrown r).1))) (h1 := (eLV :: (HD d (HF f (HW w (HM m (HS s (HG g (HR r (HO o tl)))))))))) (k1 := 0) (n1 := 0) (inv_V (q := 12) (av := []) (rest := []) rfl (ci := 6) rfl d_Law_law_554 gw_1092 gw_1093 gw_1094 mw_Mod_thrown nh_Mod_thrown pn_Mod_thrown rfl) d_Law_law_554 pl_Mod_thrown (Nat.le_of_ble_eq_true rfl) (Nat.le_of_ble_eq_true rfl) (Nat.le_of_ble_eq_true rfl) (Nat.zero_add _) (Nat.zero_add _) (e_f_Mod_thrown (tl := (HO o tl)) (d := d) (f := f) (w := w) (m := m) (s := s) (g := g)  r ) (Or.inl (len1 (lenHD (lenHF (lenHW (lenHM (lenHS (lenHG (lenHR (lenHO rfl)))))))))) ?_
  refine ev_iload d_Law_law_557 rfl ?_
  refine ev_icmp_eq (tgt := 564) d_Law_law_559 rfl (fun h1 => ?_) (fun h1 => ?_)
  · rw [if_pos h1]
    refine ev_iload d_Law_law_564 rfl ?_
    refine ev_if_ne (tgt := 581) d_Law_law_566 rfl (fun h2 => ?_) (fun h2 => ?_)
    · rw [if_pos h2]
      exact ev_pick [1, 2, 3, 4, 5] rfl (ev_widen (Nat.le_refl _) (Nat.le_refl _) (by omega) (by omega) (e_B_Law_law_581   r23 hr23 d f w m s g r o x4))
    · rw [if_neg h2]
      refine ev_aload_n d_Law_law_569 rfl rfl ?_
      refine ev_iconst (v := 0) d_Law_law_570 rfl ?_
      refine ev_inB (fun h3 => ?_)
      refine ev_laload rfl (inB_of h3) d_Law_law_571 ?_
      refine ev_iload d_Law_law_572 rfl ?_
      refine ev_i2l d_Law_law_574 ?_
      refine ev_lcmp d_Law_law_575 ?_
      refine ev_if_eq (tgt := 581) d_Law_law_576 rfl (fun h4 => ?_) (fun h4 => ?_)
      · rw [if_pos h4]
        exact ev_pick [1, 2, 3, 4, 5] rfl (ev_widen (Nat.le_refl _) (Nat.le_refl _) (by omega) (by omega) (e_B_Law_law_581   r23 hr23 d f w m s g r o x4))
      · rw [if_neg h4]
        refine ev_iconst (v := 0) d_Law_law_579 rfl ?_
        exact ev_widen (Nat.zero_le _) (Nat.zero_le _) (Nat.zero_le _) (Nat.zero_le _) (ev_zret (ty := .boolean) rfl rfl d_Law_law_580)
  · rw [if_neg h1]
    refine ev_iconst (v := 0) d_Law_law_562 rfl ?_
    exact ev_widen (Nat.zero_le _) (Nat.zero_le _) (Nat.zero_le _) (Nat.zero_le _) (ev_zret (ty := .boolean) rfl rfl d_Law_law_563)
def B_Law_law_539 (sc : Nat × (Nat → Int32)) (r23 : DS → FS → WS → MS → SS → GS → RS → OS → Int32 → Option (Int32 × (DS × FS × WS × MS × SS × GS × RS × OS))) (d : DS) (f : FS) (w : WS) (m : MS) (s : SS) (g : GS) (r : RS) (o : OS) (x4 : Int32) (t0 : Int32) : Option (Int32 × (DS × FS × WS × MS × SS × GS × RS × OS)) :=
  if inB (x4 + 1) sc.1 then (bnd (f_Mod_length r (sc.2 (x4 + 1).toNatClampNeg)) (fun q => B_Law_law_551 sc r23 d f w m s g q.2 o x4 t0 q.1)) else none
theorem e_B_Law_law_539 {sc : Nat × (Nat → Int32)} {tl : List mn_E} {kk : Nat} (r23 : DS → FS → WS → MS → SS → GS → RS → OS → Int32 → Option (Int32 × (DS × FS × WS × MS × SS × GS × RS × OS))) (hr23 : ∀ (d : DS) (f : FS) (w : WS) (m : MS) (s : SS) (g : GS) (r : RS) (o : OS) (x4 : Int32), Ev sc 404 6259 kk (6 * kk) M_Law_law 23 [(0, .ref 1000000), (1, .ref 0), (2, .ref 12), (3, .ref 30), (4, .int x4)] [] (eLV :: (HD d (HF f (HW w (HM m (HS s (HG g (HR r (HO o tl))))))))) (mapR ouI (fun z => (eLV :: (HD z.1 (HF z.2.1 (HW z.2.2.1 (HM z.2.2.2.1 (HS z.2.2.2.2.1 (HG z.2.2.2.2.2.1 (HR z.2.2.2.2.2.2.1 (HO z.2.2.2.2.2.2.2 tl)))))))))) (r23 d f w m s g r o x4))) (d : DS) (f : FS) (w : WS) (m : MS) (s : SS) (g : GS) (r : RS) (o : OS) (x4 : Int32) (t0 : Int32) : Ev sc 404 6259 (kk + 0) (6 * kk + 0) M_Law_law 539 [(0, .ref 1000000), (1, .ref 0), (2, .ref 12), (3, .ref 30), (4, .int x4)] [.int t0] (eLV :: (HD d (HF f (HW w (HM m (HS s (HG g (HR r (HO o tl))))))))) (mapR ouI (fun z => (eLV :: (HD z.1 (HF z.2.1 (HW z.2.2.1 (HM z.2.2.2.1 (HS z.2.2.2.2.1 (HG z.2.2.2.2.2.1 (HR z.2.2.2.2.2.2.1 (HO z.2.2.2.2.2.2.2 tl)))))))))) (B_Law_law_539 sc r23 d f w m s g r o x4 t0)) := by
  unfold B_Law_law_539
  refine ev_istore d_Law_law_539 (by decide) rfl ?_
  refine ev_aload_n d_Law_law_541 rfl rfl ?_
  refine ev_aload_n d_Law_law_542 rfl rfl ?_
  refine ev_iload d_Law_law_543 rfl ?_
  refine ev_iconst (v := 1) d_Law_law_545 rfl ?_
  refine ev_iadd d_Law_law_546 ?_
  refine ev_inB (fun h1 => ?_)
  refine ev_sld (inB_of h1) d_Law_law_547 ?_
  refine ev_callBK (k1 := 0) (n1 := 0) (rc := (f_Mod_length r (sc.2 (x4 + 1).toNatClampNeg))) (ou := ouI) (Hs := (fun z => (eLV :: (HD d (HF f (HW w (HM m (HS s (HG g (HR z (HO o tl))))))))))) (inv_V (q := 12) (av := [.int (sc.2 (x4 + 1).toNatClampNeg)]) (rest := []) rfl (ci := 6) rfl d_Law_law_548 gw_1247 gw_1248 gw_1249 mw_Mod_length nh_Mod_length pn_Mod_length rfl) d_Law_law_548 pl_Mod_length (Nat.le_of_ble_eq_true rfl) (Nat.le_of_ble_eq_true rfl) (Nat.le_of_ble_eq_true rfl) (Nat.zero_add _) (Nat.zero_add _) (e_f_Mod_length (tl := (HO o tl)) (d := d) (f := f) (w := w) (m := m) (s := s) (g := g)  r (sc.2 (x4 + 1).toNatClampNeg)) (fun _ => (len1 (lenHD (lenHF (lenHW (lenHM (lenHS (lenHG (lenHR (lenHO rfl)))))))))) (fun v z h2 => ⟨_, rfl, ?_⟩)
  exact ev_pick [1, 2, 3, 4, 5, 0] rfl (ev_widen (Nat.le_refl _) (Nat.le_refl _) (by omega) (by omega) (e_B_Law_law_551   r23 hr23 d f w m s g z o x4 t0 v))
def B_Law_law_528 (sc : Nat × (Nat → Int32)) (r23 : DS → FS → WS → MS → SS → GS → RS → OS → Int32 → Option (Int32 × (DS × FS × WS × MS × SS × GS × RS × OS))) (d : DS) (f : FS) (w : WS) (m : MS) (s : SS) (g : GS) (r : RS) (o : OS) (x4 : Int32) : Option (Int32 × (DS × FS × WS × MS × SS × GS × RS × OS)) :=
  if inB (x4 + 1) sc.1 then (bnd (f_Law_length d f w m s g r o (sc.2 (x4 + 1).toNatClampNeg)) (fun q => B_Law_law_539 sc r23 q.2.1 q.2.2.1 w m s g r q.2.2.2 x4 q.1)) else none
theorem e_B_Law_law_528 {sc : Nat × (Nat → Int32)} {tl : List mn_E} {kk : Nat} (r23 : DS → FS → WS → MS → SS → GS → RS → OS → Int32 → Option (Int32 × (DS × FS × WS × MS × SS × GS × RS × OS))) (hr23 : ∀ (d : DS) (f : FS) (w : WS) (m : MS) (s : SS) (g : GS) (r : RS) (o : OS) (x4 : Int32), Ev sc 404 6259 kk (6 * kk) M_Law_law 23 [(0, .ref 1000000), (1, .ref 0), (2, .ref 12), (3, .ref 30), (4, .int x4)] [] (eLV :: (HD d (HF f (HW w (HM m (HS s (HG g (HR r (HO o tl))))))))) (mapR ouI (fun z => (eLV :: (HD z.1 (HF z.2.1 (HW z.2.2.1 (HM z.2.2.2.1 (HS z.2.2.2.2.1 (HG z.2.2.2.2.2.1 (HR z.2.2.2.2.2.2.1 (HO z.2.2.2.2.2.2.2 tl)))))))))) (r23 d f w m s g r o x4))) (d : DS) (f : FS) (w : WS) (m : MS) (s : SS) (g : GS) (r : RS) (o : OS) (x4 : Int32) : Ev sc 404 6259 (kk + 1) (6 * kk + 6) M_Law_law 528 [(0, .ref 1000000), (1, .ref 0), (2, .ref 12), (3, .ref 30), (4, .int x4)] [] (eLV :: (HD d (HF f (HW w (HM m (HS s (HG g (HR r (HO o tl))))))))) (mapR ouI (fun z => (eLV :: (HD z.1 (HF z.2.1 (HW z.2.2.1 (HM z.2.2.2.1 (HS z.2.2.2.2.1 (HG z.2.2.2.2.2.1 (HR z.2.2.2.2.2.2.1 (HO z.2.2.2.2.2.2.2 tl)))))))))) (B_Law_law_528 sc r23 d f w m s g r o x4)) := by
  unfold B_Law_law_528
  refine ev_aload_n d_Law_law_528 rfl rfl ?_
  refine ev_aload_n d_Law_law_529 rfl rfl ?_
  refine ev_iload d_Law_law_530 rfl ?_
  refine ev_iconst (v := 1) d_Law_law_532 rfl ?_
  refine ev_iadd d_Law_law_533 ?_
  refine ev_inB (fun h1 => ?_)
  refine ev_sld (inB_of h1) d_Law_law_534 ?_
  refine ev_aload_n d_Law_law_535 rfl rfl ?_
  refine ev_callBK (k1 := 1) (n1 := 6) (k2 := kk) (n2 := 6 * kk) (rc := (f_Law_length d f w m s g r o (sc.2 (x4 + 1).toNatClampNeg))) (ou := ouI) (Hs := (fun z => (eLV :: (HD z.1 (HF z.2.1 (HW w (HM m (HS s (HG g (HR r (HO z.2.2 tl))))))))))) (inv_S (av := [.ref 0, .int (sc.2 (x4 + 1).toNatClampNeg), .ref 30]) (rest := []) d_Law_law_536 gw_961 gw_962 gw_101 mw_Law_length nh_Law_length pn_Law_length rfl) d_Law_law_536 pl_Law_length (Nat.le_of_ble_eq_true rfl) (Nat.le_of_ble_eq_true rfl) (Nat.le_of_ble_eq_true rfl) (by omega) (by omega) (e_f_Law_length (tl := tl)  d f w m s g r o (sc.2 (x4 + 1).toNatClampNeg)) (fun _ => (len1 (lenHD (lenHF (lenHW (lenHM (lenHS (lenHG (lenHR (lenHO rfl)))))))))) (fun v z h2 => ⟨_, rfl, ?_⟩)
  exact ev_pick [0, 1, 2, 3, 4] rfl (ev_widen (Nat.le_refl _) (Nat.le_refl _) (by omega) (by omega) (e_B_Law_law_539   r23 hr23 z.1 z.2.1 w m s g r z.2.2 x4 v))
def B_Law_law_661 (sc : Nat × (Nat → Int32)) (r23 : DS → FS → WS → MS → SS → GS → RS → OS → Int32 → Option (Int32 × (DS × FS × WS × MS × SS × GS × RS × OS))) (d : DS) (f : FS) (w : WS) (m : MS) (s : SS) (g : GS) (r : RS) (o : OS) (x4 : Int32) : Option (Int32 × (DS × FS × WS × MS × SS × GS × RS × OS)) :=
  B_Law_law_948 sc r23 d f w m s g r o x4
theorem e_B_Law_law_661 {sc : Nat × (Nat → Int32)} {tl : List mn_E} {kk : Nat} (r23 : DS → FS → WS → MS → SS → GS → RS → OS → Int32 → Option (Int32 × (DS × FS × WS × MS × SS × GS × RS × OS))) (hr23 : ∀ (d : DS) (f : FS) (w : WS) (m : MS) (s : SS) (g : GS) (r : RS) (o : OS) (x4 : Int32), Ev sc 404 6259 kk (6 * kk) M_Law_law 23 [(0, .ref 1000000), (1, .ref 0), (2, .ref 12), (3, .ref 30), (4, .int x4)] [] (eLV :: (HD d (HF f (HW w (HM m (HS s (HG g (HR r (HO o tl))))))))) (mapR ouI (fun z => (eLV :: (HD z.1 (HF z.2.1 (HW z.2.2.1 (HM z.2.2.2.1 (HS z.2.2.2.2.1 (HG z.2.2.2.2.2.1 (HR z.2.2.2.2.2.2.1 (HO z.2.2.2.2.2.2.2 tl)))))))))) (r23 d f w m s g r o x4))) (d : DS) (f : FS) (w : WS) (m : MS) (s : SS) (g : GS) (r : RS) (o : OS) (x4 : Int32) : Ev sc 404 6259 (kk + 0) (6 * kk + 0) M_Law_law 661 [(0, .ref 1000000), (1, .ref 0), (2, .ref 12), (3, .ref 30), (4, .int x4)] [] (eLV :: (HD d (HF f (HW w (HM m (HS s (HG g (HR r (HO o tl))))))))) (mapR ouI (fun z => (eLV :: (HD z.1 (HF z.2.1 (HW z.2.2.1 (HM z.2.2.2.1 (HS z.2.2.2.2.1 (HG z.2.2.2.2.2.1 (HR z.2.2.2.2.2.2.1 (HO z.2.2.2.2.2.2.2 tl)))))))))) (B_Law_law_661 sc r23 d f w m s g r o x4)) := by
  unfold B_Law_law_661
  refine ev_goto (tgt := 948) d_Law_law_661 rfl ?_
  exact ev_pick [0, 1, 2, 3, 4] rfl (ev_widen (Nat.le_refl _) (Nat.le_refl _) (by omega) (by omega) (e_B_Law_law_948   r23 hr23 d f w m s g r o x4))
def B_Law_law_631 (sc : Nat × (Nat → Int32)) (r23 : DS → FS → WS → MS → SS → GS → RS → OS → Int32 → Option (Int32 × (DS × FS × WS × MS × SS × GS × RS × OS))) (d : DS) (f : FS) (w : WS) (m : MS) (s : SS) (g : GS) (r : RS) (o : OS) (x4 : Int32) (x5 : Int32) (t0 : Int32) : Option (Int32 × (DS × FS × WS × MS × SS × GS × RS × OS)) :=
  if ((f_Mod_thrown r).1) = x5 then (if ¬ x5 = 0 then (B_Law_law_661 sc r23 d f w m s g r o x4) else (if inB 0 1 then (if (lg_cmp (oOut o (0 : Int32).toNatClampNeg) t0.toInt64) = 0 then (B_Law_law_661 sc r23 d f w m s g r o x4) else (some (0, (d, f, w, m, s, g, r, o)))) else none)) else (some (0, (d, f, w, m, s, g, r, o)))
theorem e_B_Law_law_631 {sc : Nat × (Nat → Int32)} {tl : List mn_E} {kk : Nat} (r23 : DS → FS → WS → MS → SS → GS → RS → OS → Int32 → Option (Int32 × (DS × FS × WS × MS × SS × GS × RS × OS))) (hr23 : ∀ (d : DS) (f : FS) (w : WS) (m : MS) (s : SS) (g : GS) (r : RS) (o : OS) (x4 : Int32), Ev sc 404 6259 kk (6 * kk) M_Law_law 23 [(0, .ref 1000000), (1, .ref 0), (2, .ref 12), (3, .ref 30), (4, .int x4)] [] (eLV :: (HD d (HF f (HW w (HM m (HS s (HG g (HR r (HO o tl))))))))) (mapR ouI (fun z => (eLV :: (HD z.1 (HF z.2.1 (HW z.2.2.1 (HM z.2.2.2.1 (HS z.2.2.2.2.1 (HG z.2.2.2.2.2.1 (HR z.2.2.2.2.2.2.1 (HO z.2.2.2.2.2.2.2 tl)))))))))) (r23 d f w m s g r o x4))) (d : DS) (f : FS) (w : WS) (m : MS) (s : SS) (g : GS) (r : RS) (o : OS) (x4 : Int32) (x5 : Int32) (t0 : Int32) : Ev sc 404 6259 (kk + 0) (6 * kk + 0) M_Law_law 631 [(0, .ref 1000000), (1, .ref 0), (2, .ref 12), (3, .ref 30), (4, .int x4), (5, .int x5)] [.int t0] (eLV :: (HD d (HF f (HW w (HM m (HS s (HG g (HR r (HO o tl))))))))) (mapR ouI (fun z => (eLV :: (HD z.1 (HF z.2.1 (HW z.2.2.1 (HM z.2.2.2.1 (HS z.2.2.2.2.1 (HG z.2.2.2.2.2.1 (HR z.2.2.2.2.2.2.1 (HO z.2.2.2.2.2.2.2 tl)))))))))) (B_Law_law_631 sc r23 d f w m s g r o x4 x5 t0)) := by
  unfold B_Law_law_631
  refine ev_istore d_Law_law_631 (by decide) rfl ?_
  refine ev_aload_n d_Law_law_633 rfl rfl ?_
  refine ev_callr (Mc := M_Mod_thrown) (v := some (.int ((f_Mod_thrown r).1))) (h1 := (eLV :: (HD d (HF f (HW w (HM m (HS s (HG g (HR r (HO o tl)))))))))) (k1 := 0) (n1 := 0) (inv_V (q := 12) (av := []) (rest := []) rfl (ci := 6) rfl d_Law_law_634 gw_1092 gw_1093 gw_1094 mw_Mod_thrown nh_Mod_thrown pn_Mod_thrown rfl) d_Law_law_634 pl_Mod_thrown (Nat.le_of_ble_eq_true rfl) (Nat.le_of_ble_eq_true rfl) (Nat.le_of_ble_eq_true rfl) (Nat.zero_add _) (Nat.zero_add _) (e_f_Mod_thrown (tl := (HO o tl)) (d := d) (f := f) (w := w) (m := m) (s := s) (g := g)  r ) (Or.inl (len1 (lenHD (lenHF (lenHW (lenHM (lenHS (lenHG (lenHR (lenHO rfl)))))))))) ?_
  refine ev_iload d_Law_law_637 rfl ?_
  refine ev_icmp_eq (tgt := 644) d_Law_law_639 rfl (fun h1 => ?_) (fun h1 => ?_)
  · rw [if_pos h1]
    refine ev_iload d_Law_law_644 rfl ?_
    refine ev_if_ne (tgt := 661) d_Law_law_646 rfl (fun h2 => ?_) (fun h2 => ?_)
    · rw [if_pos h2]
      exact ev_pick [1, 2, 3, 4, 5] rfl (ev_widen (Nat.le_refl _) (Nat.le_refl _) (by omega) (by omega) (e_B_Law_law_661   r23 hr23 d f w m s g r o x4))
    · rw [if_neg h2]
      refine ev_aload_n d_Law_law_649 rfl rfl ?_
      refine ev_iconst (v := 0) d_Law_law_650 rfl ?_
      refine ev_inB (fun h3 => ?_)
      refine ev_laload rfl (inB_of h3) d_Law_law_651 ?_
      refine ev_iload d_Law_law_652 rfl ?_
      refine ev_i2l d_Law_law_654 ?_
      refine ev_lcmp d_Law_law_655 ?_
      refine ev_if_eq (tgt := 661) d_Law_law_656 rfl (fun h4 => ?_) (fun h4 => ?_)
      · rw [if_pos h4]
        exact ev_pick [1, 2, 3, 4, 5] rfl (ev_widen (Nat.le_refl _) (Nat.le_refl _) (by omega) (by omega) (e_B_Law_law_661   r23 hr23 d f w m s g r o x4))
      · rw [if_neg h4]
        refine ev_iconst (v := 0) d_Law_law_659 rfl ?_
        exact ev_widen (Nat.zero_le _) (Nat.zero_le _) (Nat.zero_le _) (Nat.zero_le _) (ev_zret (ty := .boolean) rfl rfl d_Law_law_660)
  · rw [if_neg h1]
    refine ev_iconst (v := 0) d_Law_law_642 rfl ?_
    exact ev_widen (Nat.zero_le _) (Nat.zero_le _) (Nat.zero_le _) (Nat.zero_le _) (ev_zret (ty := .boolean) rfl rfl d_Law_law_643)
def B_Law_law_607 (sc : Nat × (Nat → Int32)) (r23 : DS → FS → WS → MS → SS → GS → RS → OS → Int32 → Option (Int32 × (DS × FS × WS × MS × SS × GS × RS × OS))) (d : DS) (f : FS) (w : WS) (m : MS) (s : SS) (g : GS) (r : RS) (o : OS) (x4 : Int32) (t0 : Int32) : Option (Int32 × (DS × FS × WS × MS × SS × GS × RS × OS)) :=
  if inB (x4 + 1) sc.1 then (if inB (x4 + 2) sc.1 then (if inB (x4 + 3) sc.1 then (bnd (f_Mod_entry r (sc.2 (x4 + 1).toNatClampNeg) (sc.2 (x4 + 2).toNatClampNeg) (sc.2 (x4 + 3).toNatClampNeg)) (fun q => B_Law_law_631 sc r23 d f w m s g q.2 o x4 t0 q.1)) else none) else none) else none
theorem e_B_Law_law_607 {sc : Nat × (Nat → Int32)} {tl : List mn_E} {kk : Nat} (r23 : DS → FS → WS → MS → SS → GS → RS → OS → Int32 → Option (Int32 × (DS × FS × WS × MS × SS × GS × RS × OS))) (hr23 : ∀ (d : DS) (f : FS) (w : WS) (m : MS) (s : SS) (g : GS) (r : RS) (o : OS) (x4 : Int32), Ev sc 404 6259 kk (6 * kk) M_Law_law 23 [(0, .ref 1000000), (1, .ref 0), (2, .ref 12), (3, .ref 30), (4, .int x4)] [] (eLV :: (HD d (HF f (HW w (HM m (HS s (HG g (HR r (HO o tl))))))))) (mapR ouI (fun z => (eLV :: (HD z.1 (HF z.2.1 (HW z.2.2.1 (HM z.2.2.2.1 (HS z.2.2.2.2.1 (HG z.2.2.2.2.2.1 (HR z.2.2.2.2.2.2.1 (HO z.2.2.2.2.2.2.2 tl)))))))))) (r23 d f w m s g r o x4))) (d : DS) (f : FS) (w : WS) (m : MS) (s : SS) (g : GS) (r : RS) (o : OS) (x4 : Int32) (t0 : Int32) : Ev sc 404 6259 (kk + 0) (6 * kk + 0) M_Law_law 607 [(0, .ref 1000000), (1, .ref 0), (2, .ref 12), (3, .ref 30), (4, .int x4)] [.int t0] (eLV :: (HD d (HF f (HW w (HM m (HS s (HG g (HR r (HO o tl))))))))) (mapR ouI (fun z => (eLV :: (HD z.1 (HF z.2.1 (HW z.2.2.1 (HM z.2.2.2.1 (HS z.2.2.2.2.1 (HG z.2.2.2.2.2.1 (HR z.2.2.2.2.2.2.1 (HO z.2.2.2.2.2.2.2 tl)))))))))) (B_Law_law_607 sc r23 d f w m s g r o x4 t0)) := by
  unfold B_Law_law_607
  refine ev_istore d_Law_law_607 (by decide) rfl ?_
  refine ev_aload_n d_Law_law_609 rfl rfl ?_
  refine ev_aload_n d_Law_law_610 rfl rfl ?_
  refine ev_iload d_Law_law_611 rfl ?_
  refine ev_iconst (v := 1) d_Law_law_613 rfl ?_
  refine ev_iadd d_Law_law_614 ?_
  refine ev_inB (fun h1 => ?_)
  refine ev_sld (inB_of h1) d_Law_law_615 ?_
  refine ev_aload_n d_Law_law_616 rfl rfl ?_
  refine ev_iload d_Law_law_617 rfl ?_
  refine ev_iconst (v := 2) d_Law_law_619 rfl ?_
  refine ev_iadd d_Law_law_620 ?_
  refine ev_inB (fun h2 => ?_)
  refine ev_sld (inB_of h2) d_Law_law_621 ?_
  refine ev_aload_n d_Law_law_622 rfl rfl ?_
  refine ev_iload d_Law_law_623 rfl ?_
  refine ev_iconst (v := 3) d_Law_law_625 rfl ?_
  refine ev_iadd d_Law_law_626 ?_
  refine ev_inB (fun h3 => ?_)
  refine ev_sld (inB_of h3) d_Law_law_627 ?_
  refine ev_callBK (k1 := 0) (n1 := 0) (rc := (f_Mod_entry r (sc.2 (x4 + 1).toNatClampNeg) (sc.2 (x4 + 2).toNatClampNeg) (sc.2 (x4 + 3).toNatClampNeg))) (ou := ouI) (Hs := (fun z => (eLV :: (HD d (HF f (HW w (HM m (HS s (HG g (HR z (HO o tl))))))))))) (inv_V (q := 12) (av := [.int (sc.2 (x4 + 1).toNatClampNeg), .int (sc.2 (x4 + 2).toNatClampNeg), .int (sc.2 (x4 + 3).toNatClampNeg)]) (rest := []) rfl (ci := 6) rfl d_Law_law_628 gw_1251 gw_1252 gw_1253 mw_Mod_entry nh_Mod_entry pn_Mod_entry rfl) d_Law_law_628 pl_Mod_entry (Nat.le_of_ble_eq_true rfl) (Nat.le_of_ble_eq_true rfl) (Nat.le_of_ble_eq_true rfl) (Nat.zero_add _) (Nat.zero_add _) (e_f_Mod_entry (tl := (HO o tl)) (d := d) (f := f) (w := w) (m := m) (s := s) (g := g)  r (sc.2 (x4 + 1).toNatClampNeg) (sc.2 (x4 + 2).toNatClampNeg) (sc.2 (x4 + 3).toNatClampNeg)) (fun _ => (len1 (lenHD (lenHF (lenHW (lenHM (lenHS (lenHG (lenHR (lenHO rfl)))))))))) (fun v z h4 => ⟨_, rfl, ?_⟩)
  exact ev_pick [1, 2, 3, 4, 5, 0] rfl (ev_widen (Nat.le_refl _) (Nat.le_refl _) (by omega) (by omega) (e_B_Law_law_631   r23 hr23 d f w m s g z o x4 t0 v))
def B_Law_law_584 (sc : Nat × (Nat → Int32)) (r23 : DS → FS → WS → MS → SS → GS → RS → OS → Int32 → Option (Int32 × (DS × FS × WS × MS × SS × GS × RS × OS))) (d : DS) (f : FS) (w : WS) (m : MS) (s : SS) (g : GS) (r : RS) (o : OS) (x4 : Int32) : Option (Int32 × (DS × FS × WS × MS × SS × GS × RS × OS)) :=
  if inB (x4 + 1) sc.1 then (if inB (x4 + 2) sc.1 then (if inB (x4 + 3) sc.1 then (bnd (f_Law_entry d f w m s g r o (sc.2 (x4 + 1).toNatClampNeg) (sc.2 (x4 + 2).toNatClampNeg) (sc.2 (x4 + 3).toNatClampNeg)) (fun q => B_Law_law_607 sc r23 q.2.1 q.2.2.1 q.2.2.2.1 m s g r q.2.2.2.2 x4 q.1)) else none) else none) else none
theorem e_B_Law_law_584 {sc : Nat × (Nat → Int32)} {tl : List mn_E} {kk : Nat} (r23 : DS → FS → WS → MS → SS → GS → RS → OS → Int32 → Option (Int32 × (DS × FS × WS × MS × SS × GS × RS × OS))) (hr23 : ∀ (d : DS) (f : FS) (w : WS) (m : MS) (s : SS) (g : GS) (r : RS) (o : OS) (x4 : Int32), Ev sc 404 6259 kk (6 * kk) M_Law_law 23 [(0, .ref 1000000), (1, .ref 0), (2, .ref 12), (3, .ref 30), (4, .int x4)] [] (eLV :: (HD d (HF f (HW w (HM m (HS s (HG g (HR r (HO o tl))))))))) (mapR ouI (fun z => (eLV :: (HD z.1 (HF z.2.1 (HW z.2.2.1 (HM z.2.2.2.1 (HS z.2.2.2.2.1 (HG z.2.2.2.2.2.1 (HR z.2.2.2.2.2.2.1 (HO z.2.2.2.2.2.2.2 tl)))))))))) (r23 d f w m s g r o x4))) (d : DS) (f : FS) (w : WS) (m : MS) (s : SS) (g : GS) (r : RS) (o : OS) (x4 : Int32) : Ev sc 404 6259 (kk + 1) (6 * kk + 6) M_Law_law 584 [(0, .ref 1000000), (1, .ref 0), (2, .ref 12), (3, .ref 30), (4, .int x4)] [] (eLV :: (HD d (HF f (HW w (HM m (HS s (HG g (HR r (HO o tl))))))))) (mapR ouI (fun z => (eLV :: (HD z.1 (HF z.2.1 (HW z.2.2.1 (HM z.2.2.2.1 (HS z.2.2.2.2.1 (HG z.2.2.2.2.2.1 (HR z.2.2.2.2.2.2.1 (HO z.2.2.2.2.2.2.2 tl)))))))))) (B_Law_law_584 sc r23 d f w m s g r o x4)) := by
  unfold B_Law_law_584
  refine ev_aload_n d_Law_law_584 rfl rfl ?_
  refine ev_aload_n d_Law_law_585 rfl rfl ?_
  refine ev_iload d_Law_law_586 rfl ?_
  refine ev_iconst (v := 1) d_Law_law_588 rfl ?_
  refine ev_iadd d_Law_law_589 ?_
  refine ev_inB (fun h1 => ?_)
  refine ev_sld (inB_of h1) d_Law_law_590 ?_
  refine ev_aload_n d_Law_law_591 rfl rfl ?_
  refine ev_iload d_Law_law_592 rfl ?_
  refine ev_iconst (v := 2) d_Law_law_594 rfl ?_
  refine ev_iadd d_Law_law_595 ?_
  refine ev_inB (fun h2 => ?_)
  refine ev_sld (inB_of h2) d_Law_law_596 ?_
  refine ev_aload_n d_Law_law_597 rfl rfl ?_
  refine ev_iload d_Law_law_598 rfl ?_
  refine ev_iconst (v := 3) d_Law_law_600 rfl ?_
  refine ev_iadd d_Law_law_601 ?_
  refine ev_inB (fun h3 => ?_)
  refine ev_sld (inB_of h3) d_Law_law_602 ?_
  refine ev_aload_n d_Law_law_603 rfl rfl ?_
  refine ev_callBK (k1 := 1) (n1 := 6) (k2 := kk) (n2 := 6 * kk) (rc := (f_Law_entry d f w m s g r o (sc.2 (x4 + 1).toNatClampNeg) (sc.2 (x4 + 2).toNatClampNeg) (sc.2 (x4 + 3).toNatClampNeg))) (ou := ouI) (Hs := (fun z => (eLV :: (HD z.1 (HF z.2.1 (HW z.2.2.1 (HM m (HS s (HG g (HR r (HO z.2.2.2 tl))))))))))) (inv_S (av := [.ref 0, .int (sc.2 (x4 + 1).toNatClampNeg), .int (sc.2 (x4 + 2).toNatClampNeg), .int (sc.2 (x4 + 3).toNatClampNeg), .ref 30]) (rest := []) d_Law_law_604 gw_968 gw_969 gw_101 mw_Law_entry nh_Law_entry pn_Law_entry rfl) d_Law_law_604 pl_Law_entry (Nat.le_of_ble_eq_true rfl) (Nat.le_of_ble_eq_true rfl) (Nat.le_of_ble_eq_true rfl) (by omega) (by omega) (e_f_Law_entry (tl := tl)  d f w m s g r o (sc.2 (x4 + 1).toNatClampNeg) (sc.2 (x4 + 2).toNatClampNeg) (sc.2 (x4 + 3).toNatClampNeg)) (fun _ => (len1 (lenHD (lenHF (lenHW (lenHM (lenHS (lenHG (lenHR (lenHO rfl)))))))))) (fun v z h4 => ⟨_, rfl, ?_⟩)
  exact ev_pick [0, 1, 2, 3, 4] rfl (ev_widen (Nat.le_refl _) (Nat.le_refl _) (by omega) (by omega) (e_B_Law_law_607   r23 hr23 z.1 z.2.1 z.2.2.1 m s g r z.2.2.2 x4 v))
def B_Law_law_672 (sc : Nat × (Nat → Int32)) (r23 : DS → FS → WS → MS → SS → GS → RS → OS → Int32 → Option (Int32 × (DS × FS × WS × MS × SS × GS × RS × OS))) (d : DS) (f : FS) (w : WS) (m : MS) (s : SS) (g : GS) (r : RS) (o : OS) (x4 : Int32) (t0 : Int32) (t1 : Int32) : Option (Int32 × (DS × FS × WS × MS × SS × GS × RS × OS)) :=
  if t0 = t1 then (B_Law_law_948 sc r23 d f w m s g r o x4) else (some (0, (d, f, w, m, s, g, r, o)))
theorem e_B_Law_law_672 {sc : Nat × (Nat → Int32)} {tl : List mn_E} {kk : Nat} (r23 : DS → FS → WS → MS → SS → GS → RS → OS → Int32 → Option (Int32 × (DS × FS × WS × MS × SS × GS × RS × OS))) (hr23 : ∀ (d : DS) (f : FS) (w : WS) (m : MS) (s : SS) (g : GS) (r : RS) (o : OS) (x4 : Int32), Ev sc 404 6259 kk (6 * kk) M_Law_law 23 [(0, .ref 1000000), (1, .ref 0), (2, .ref 12), (3, .ref 30), (4, .int x4)] [] (eLV :: (HD d (HF f (HW w (HM m (HS s (HG g (HR r (HO o tl))))))))) (mapR ouI (fun z => (eLV :: (HD z.1 (HF z.2.1 (HW z.2.2.1 (HM z.2.2.2.1 (HS z.2.2.2.2.1 (HG z.2.2.2.2.2.1 (HR z.2.2.2.2.2.2.1 (HO z.2.2.2.2.2.2.2 tl)))))))))) (r23 d f w m s g r o x4))) (d : DS) (f : FS) (w : WS) (m : MS) (s : SS) (g : GS) (r : RS) (o : OS) (x4 : Int32) (t0 : Int32) (t1 : Int32) : Ev sc 404 6259 (kk + 0) (6 * kk + 0) M_Law_law 672 [(0, .ref 1000000), (1, .ref 0), (2, .ref 12), (3, .ref 30), (4, .int x4)] [.int t1, .int t0] (eLV :: (HD d (HF f (HW w (HM m (HS s (HG g (HR r (HO o tl))))))))) (mapR ouI (fun z => (eLV :: (HD z.1 (HF z.2.1 (HW z.2.2.1 (HM z.2.2.2.1 (HS z.2.2.2.2.1 (HG z.2.2.2.2.2.1 (HR z.2.2.2.2.2.2.1 (HO z.2.2.2.2.2.2.2 tl)))))))))) (B_Law_law_672 sc r23 d f w m s g r o x4 t0 t1)) := by
  unfold B_Law_law_672
  refine ev_icmp_eq (tgt := 948) d_Law_law_672 rfl (fun h1 => ?_) (fun h1 => ?_)
  · rw [if_pos h1]
    exact ev_pick [0, 1, 2, 3, 4] rfl (ev_widen (Nat.le_refl _) (Nat.le_refl _) (by omega) (by omega) (e_B_Law_law_948   r23 hr23 d f w m s g r o x4))
  · rw [if_neg h1]
    refine ev_iconst (v := 0) d_Law_law_675 rfl ?_
    exact ev_widen (Nat.zero_le _) (Nat.zero_le _) (Nat.zero_le _) (Nat.zero_le _) (ev_zret (ty := .boolean) rfl rfl d_Law_law_676)
def B_Law_law_668 (sc : Nat × (Nat → Int32)) (r23 : DS → FS → WS → MS → SS → GS → RS → OS → Int32 → Option (Int32 × (DS × FS × WS × MS × SS × GS × RS × OS))) (d : DS) (f : FS) (w : WS) (m : MS) (s : SS) (g : GS) (r : RS) (o : OS) (x4 : Int32) (t0 : Int32) : Option (Int32 × (DS × FS × WS × MS × SS × GS × RS × OS)) :=
  bnd (f_Mod_scavenge r) (fun q => B_Law_law_672 sc r23 d f w m s g q.2 o x4 t0 q.1)
theorem e_B_Law_law_668 {sc : Nat × (Nat → Int32)} {tl : List mn_E} {kk : Nat} (r23 : DS → FS → WS → MS → SS → GS → RS → OS → Int32 → Option (Int32 × (DS × FS × WS × MS × SS × GS × RS × OS))) (hr23 : ∀ (d : DS) (f : FS) (w : WS) (m : MS) (s : SS) (g : GS) (r : RS) (o : OS) (x4 : Int32), Ev sc 404 6259 kk (6 * kk) M_Law_law 23 [(0, .ref 1000000), (1, .ref 0), (2, .ref 12), (3, .ref 30), (4, .int x4)] [] (eLV :: (HD d (HF f (HW w (HM m (HS s (HG g (HR r (HO o tl))))))))) (mapR ouI (fun z => (eLV :: (HD z.1 (HF z.2.1 (HW z.2.2.1 (HM z.2.2.2.1 (HS z.2.2.2.2.1 (HG z.2.2.2.2.2.1 (HR z.2.2.2.2.2.2.1 (HO z.2.2.2.2.2.2.2 tl)))))))))) (r23 d f w m s g r o x4))) (d : DS) (f : FS) (w : WS) (m : MS) (s : SS) (g : GS) (r : RS) (o : OS) (x4 : Int32) (t0 : Int32) : Ev sc 404 6259 (kk + 0) (6 * kk + 0) M_Law_law 668 [(0, .ref 1000000), (1, .ref 0), (2, .ref 12), (3, .ref 30), (4, .int x4)] [.int t0] (eLV :: (HD d (HF f (HW w (HM m (HS s (HG g (HR r (HO o tl))))))))) (mapR ouI (fun z => (eLV :: (HD z.1 (HF z.2.1 (HW z.2.2.1 (HM z.2.2.2.1 (HS z.2.2.2.2.1 (HG z.2.2.2.2.2.1 (HR z.2.2.2.2.2.2.1 (HO z.2.2.2.2.2.2.2 tl)))))))))) (B_Law_law_668 sc r23 d f w m s g r o x4 t0)) := by
  unfold B_Law_law_668
  refine ev_aload_n d_Law_law_668 rfl rfl ?_
  refine ev_callBK (k1 := 0) (n1 := 0) (rc := (f_Mod_scavenge r)) (ou := ouI) (Hs := (fun z => (eLV :: (HD d (HF f (HW w (HM m (HS s (HG g (HR z (HO o tl))))))))))) (inv_V (q := 12) (av := []) (rest := [.int t0]) rfl (ci := 6) rfl d_Law_law_669 gw_1255 gw_1256 gw_1257 mw_Mod_scavenge nh_Mod_scavenge pn_Mod_scavenge rfl) d_Law_law_669 pl_Mod_scavenge (Nat.le_of_ble_eq_true rfl) (Nat.le_of_ble_eq_true rfl) (Nat.le_of_ble_eq_true rfl) (Nat.zero_add _) (Nat.zero_add _) (e_f_Mod_scavenge (tl := (HO o tl)) (d := d) (f := f) (w := w) (m := m) (s := s) (g := g)  r ) (fun _ => (len1 (lenHD (lenHF (lenHW (lenHM (lenHS (lenHG (lenHR (lenHO rfl)))))))))) (fun v z h1 => ⟨_, rfl, ?_⟩)
  exact ev_pick [0, 1, 2, 3, 4] rfl (ev_widen (Nat.le_refl _) (Nat.le_refl _) (by omega) (by omega) (e_B_Law_law_672   r23 hr23 d f w m s g z o x4 t0 v))
def B_Law_law_664 (sc : Nat × (Nat → Int32)) (r23 : DS → FS → WS → MS → SS → GS → RS → OS → Int32 → Option (Int32 × (DS × FS × WS × MS × SS × GS × RS × OS))) (d : DS) (f : FS) (w : WS) (m : MS) (s : SS) (g : GS) (r : RS) (o : OS) (x4 : Int32) : Option (Int32 × (DS × FS × WS × MS × SS × GS × RS × OS)) :=
  bnd (f_LV_scavenge d f w m s g) (fun q => B_Law_law_668 sc r23 q.2.1 q.2.2.1 w m q.2.2.2 g r o x4 q.1)
theorem e_B_Law_law_664 {sc : Nat × (Nat → Int32)} {tl : List mn_E} {kk : Nat} (r23 : DS → FS → WS → MS → SS → GS → RS → OS → Int32 → Option (Int32 × (DS × FS × WS × MS × SS × GS × RS × OS))) (hr23 : ∀ (d : DS) (f : FS) (w : WS) (m : MS) (s : SS) (g : GS) (r : RS) (o : OS) (x4 : Int32), Ev sc 404 6259 kk (6 * kk) M_Law_law 23 [(0, .ref 1000000), (1, .ref 0), (2, .ref 12), (3, .ref 30), (4, .int x4)] [] (eLV :: (HD d (HF f (HW w (HM m (HS s (HG g (HR r (HO o tl))))))))) (mapR ouI (fun z => (eLV :: (HD z.1 (HF z.2.1 (HW z.2.2.1 (HM z.2.2.2.1 (HS z.2.2.2.2.1 (HG z.2.2.2.2.2.1 (HR z.2.2.2.2.2.2.1 (HO z.2.2.2.2.2.2.2 tl)))))))))) (r23 d f w m s g r o x4))) (d : DS) (f : FS) (w : WS) (m : MS) (s : SS) (g : GS) (r : RS) (o : OS) (x4 : Int32) : Ev sc 404 6259 (kk + 0) (6 * kk + 0) M_Law_law 664 [(0, .ref 1000000), (1, .ref 0), (2, .ref 12), (3, .ref 30), (4, .int x4)] [] (eLV :: (HD d (HF f (HW w (HM m (HS s (HG g (HR r (HO o tl))))))))) (mapR ouI (fun z => (eLV :: (HD z.1 (HF z.2.1 (HW z.2.2.1 (HM z.2.2.2.1 (HS z.2.2.2.2.1 (HG z.2.2.2.2.2.1 (HR z.2.2.2.2.2.2.1 (HO z.2.2.2.2.2.2.2 tl)))))))))) (B_Law_law_664 sc r23 d f w m s g r o x4)) := by
  unfold B_Law_law_664
  refine ev_aload_n d_Law_law_664 rfl rfl ?_
  refine ev_callBK (k1 := 0) (n1 := 0) (rc := (f_LV_scavenge d f w m s g)) (ou := ouI) (Hs := (fun z => (eLV :: (HD z.1 (HF z.2.1 (HW w (HM m (HS z.2.2 (HG g (HR r (HO o tl))))))))))) (inv_V (q := 0) (av := []) (rest := []) rfl (ci := 0) rfl d_Law_law_665 gw_306 gw_307 gw_308 mw_LV_scavenge nh_LV_scavenge pn_LV_scavenge rfl) d_Law_law_665 pl_LV_scavenge (Nat.le_of_ble_eq_true rfl) (Nat.le_of_ble_eq_true rfl) (Nat.le_of_ble_eq_true rfl) (Nat.zero_add _) (Nat.zero_add _) (e_f_LV_scavenge (tl := (HR r (HO o tl)))  d f w m s g ) (fun _ => (len1 (lenHD (lenHF (lenHW (lenHM (lenHS (lenHG (lenHR (lenHO rfl)))))))))) (fun v z h1 => ⟨_, rfl, ?_⟩)
  exact ev_pick [0, 1, 2, 3, 4] rfl (ev_widen (Nat.le_refl _) (Nat.le_refl _) (by omega) (by omega) (e_B_Law_law_668   r23 hr23 z.1 z.2.1 w m z.2.2 g r o x4 v))
def B_Law_law_699 (sc : Nat × (Nat → Int32)) (r23 : DS → FS → WS → MS → SS → GS → RS → OS → Int32 → Option (Int32 × (DS × FS × WS × MS × SS × GS × RS × OS))) (d : DS) (f : FS) (w : WS) (m : MS) (s : SS) (g : GS) (r : RS) (o : OS) (x4 : Int32) (x5 : Int32) : Option (Int32 × (DS × FS × WS × MS × SS × GS × RS × OS)) :=
  if ((f_Mod_thrown r).1) = x5 then (B_Law_law_948 sc r23 d f w m s g r o x4) else (some (0, (d, f, w, m, s, g, r, o)))
theorem e_B_Law_law_699 {sc : Nat × (Nat → Int32)} {tl : List mn_E} {kk : Nat} (r23 : DS → FS → WS → MS → SS → GS → RS → OS → Int32 → Option (Int32 × (DS × FS × WS × MS × SS × GS × RS × OS))) (hr23 : ∀ (d : DS) (f : FS) (w : WS) (m : MS) (s : SS) (g : GS) (r : RS) (o : OS) (x4 : Int32), Ev sc 404 6259 kk (6 * kk) M_Law_law 23 [(0, .ref 1000000), (1, .ref 0), (2, .ref 12), (3, .ref 30), (4, .int x4)] [] (eLV :: (HD d (HF f (HW w (HM m (HS s (HG g (HR r (HO o tl))))))))) (mapR ouI (fun z => (eLV :: (HD z.1 (HF z.2.1 (HW z.2.2.1 (HM z.2.2.2.1 (HS z.2.2.2.2.1 (HG z.2.2.2.2.2.1 (HR z.2.2.2.2.2.2.1 (HO z.2.2.2.2.2.2.2 tl)))))))))) (r23 d f w m s g r o x4))) (d : DS) (f : FS) (w : WS) (m : MS) (s : SS) (g : GS) (r : RS) (o : OS) (x4 : Int32) (x5 : Int32) : Ev sc 404 6259 (kk + 0) (6 * kk + 0) M_Law_law 699 [(0, .ref 1000000), (1, .ref 0), (2, .ref 12), (3, .ref 30), (4, .int x4), (5, .int x5)] [] (eLV :: (HD d (HF f (HW w (HM m (HS s (HG g (HR r (HO o tl))))))))) (mapR ouI (fun z => (eLV :: (HD z.1 (HF z.2.1 (HW z.2.2.1 (HM z.2.2.2.1 (HS z.2.2.2.2.1 (HG z.2.2.2.2.2.1 (HR z.2.2.2.2.2.2.1 (HO z.2.2.2.2.2.2.2 tl)))))))))) (B_Law_law_699 sc r23 d f w m s g r o x4 x5)) := by
  unfold B_Law_law_699
  refine ev_aload_n d_Law_law_699 rfl rfl ?_
  refine ev_callr (Mc := M_Mod_thrown) (v := some (.int ((f_Mod_thrown r).1))) (h1 := (eLV :: (HD d (HF f (HW w (HM m (HS s (HG g (HR r (HO o tl)))))))))) (k1 := 0) (n1 := 0) (inv_V (q := 12) (av := []) (rest := []) rfl (ci := 6) rfl d_Law_law_700 gw_1092 gw_1093 gw_1094 mw_Mod_thrown nh_Mod_thrown pn_Mod_thrown rfl) d_Law_law_700 pl_Mod_thrown (Nat.le_of_ble_eq_true rfl) (Nat.le_of_ble_eq_true rfl) (Nat.le_of_ble_eq_true rfl) (Nat.zero_add _) (Nat.zero_add _) (e_f_Mod_thrown (tl := (HO o tl)) (d := d) (f := f) (w := w) (m := m) (s := s) (g := g)  r ) (Or.inl (len1 (lenHD (lenHF (lenHW (lenHM (lenHS (lenHG (lenHR (lenHO rfl)))))))))) ?_
  refine ev_iload d_Law_law_703 rfl ?_
  refine ev_icmp_eq (tgt := 710) d_Law_law_705 rfl (fun h1 => ?_) (fun h1 => ?_)
  · rw [if_pos h1]
    refine ev_goto (tgt := 948) d_Law_law_710 rfl ?_
    exact ev_pick [0, 1, 2, 3, 4] rfl (ev_widen (Nat.le_refl _) (Nat.le_refl _) (by omega) (by omega) (e_B_Law_law_948   r23 hr23 d f w m s g r o x4))
  · rw [if_neg h1]
    refine ev_iconst (v := 0) d_Law_law_708 rfl ?_
    exact ev_widen (Nat.zero_le _) (Nat.zero_le _) (Nat.zero_le _) (Nat.zero_le _) (ev_zret (ty := .boolean) rfl rfl d_Law_law_709)
def B_Law_law_687 (sc : Nat × (Nat → Int32)) (r23 : DS → FS → WS → MS → SS → GS → RS → OS → Int32 → Option (Int32 × (DS × FS × WS × MS × SS × GS × RS × OS))) (d : DS) (f : FS) (w : WS) (m : MS) (s : SS) (g : GS) (r : RS) (o : OS) (x4 : Int32) (t0 : Int32) : Option (Int32 × (DS × FS × WS × MS × SS × GS × RS × OS)) :=
  if inB (x4 + 1) sc.1 then (B_Law_law_699 sc r23 d f w m s g ((f_Mod_charge r (sc.2 (x4 + 1).toNatClampNeg)).2) o x4 t0) else none
theorem e_B_Law_law_687 {sc : Nat × (Nat → Int32)} {tl : List mn_E} {kk : Nat} (r23 : DS → FS → WS → MS → SS → GS → RS → OS → Int32 → Option (Int32 × (DS × FS × WS × MS × SS × GS × RS × OS))) (hr23 : ∀ (d : DS) (f : FS) (w : WS) (m : MS) (s : SS) (g : GS) (r : RS) (o : OS) (x4 : Int32), Ev sc 404 6259 kk (6 * kk) M_Law_law 23 [(0, .ref 1000000), (1, .ref 0), (2, .ref 12), (3, .ref 30), (4, .int x4)] [] (eLV :: (HD d (HF f (HW w (HM m (HS s (HG g (HR r (HO o tl))))))))) (mapR ouI (fun z => (eLV :: (HD z.1 (HF z.2.1 (HW z.2.2.1 (HM z.2.2.2.1 (HS z.2.2.2.2.1 (HG z.2.2.2.2.2.1 (HR z.2.2.2.2.2.2.1 (HO z.2.2.2.2.2.2.2 tl)))))))))) (r23 d f w m s g r o x4))) (d : DS) (f : FS) (w : WS) (m : MS) (s : SS) (g : GS) (r : RS) (o : OS) (x4 : Int32) (t0 : Int32) : Ev sc 404 6259 (kk + 0) (6 * kk + 0) M_Law_law 687 [(0, .ref 1000000), (1, .ref 0), (2, .ref 12), (3, .ref 30), (4, .int x4)] [.int t0] (eLV :: (HD d (HF f (HW w (HM m (HS s (HG g (HR r (HO o tl))))))))) (mapR ouI (fun z => (eLV :: (HD z.1 (HF z.2.1 (HW z.2.2.1 (HM z.2.2.2.1 (HS z.2.2.2.2.1 (HG z.2.2.2.2.2.1 (HR z.2.2.2.2.2.2.1 (HO z.2.2.2.2.2.2.2 tl)))))))))) (B_Law_law_687 sc r23 d f w m s g r o x4 t0)) := by
  unfold B_Law_law_687
  refine ev_istore d_Law_law_687 (by decide) rfl ?_
  refine ev_aload_n d_Law_law_689 rfl rfl ?_
  refine ev_aload_n d_Law_law_690 rfl rfl ?_
  refine ev_iload d_Law_law_691 rfl ?_
  refine ev_iconst (v := 1) d_Law_law_693 rfl ?_
  refine ev_iadd d_Law_law_694 ?_
  refine ev_inB (fun h1 => ?_)
  refine ev_sld (inB_of h1) d_Law_law_695 ?_
  refine ev_callr (Mc := M_Mod_charge) (v := none) (h1 := (eLV :: (HD d (HF f (HW w (HM m (HS s (HG g (HR ((f_Mod_charge r (sc.2 (x4 + 1).toNatClampNeg)).2) (HO o tl)))))))))) (k1 := 0) (n1 := 0) (inv_V (q := 12) (av := [.int (sc.2 (x4 + 1).toNatClampNeg)]) (rest := []) rfl (ci := 6) rfl d_Law_law_696 gw_1344 gw_1345 gw_1346 mw_Mod_charge nh_Mod_charge pn_Mod_charge rfl) d_Law_law_696 pl_Mod_charge (Nat.le_of_ble_eq_true rfl) (Nat.le_of_ble_eq_true rfl) (Nat.le_of_ble_eq_true rfl) (Nat.zero_add _) (Nat.zero_add _) (e_f_Mod_charge (tl := (HO o tl)) (d := d) (f := f) (w := w) (m := m) (s := s) (g := g)  r (sc.2 (x4 + 1).toNatClampNeg)) (Or.inl (len1 (lenHD (lenHF (lenHW (lenHM (lenHS (lenHG (lenHR (lenHO rfl)))))))))) ?_
  exact ev_pick [1, 2, 3, 4, 5, 0] rfl (ev_widen (Nat.le_refl _) (Nat.le_refl _) (by omega) (by omega) (e_B_Law_law_699   r23 hr23 d f w m s g ((f_Mod_charge r (sc.2 (x4 + 1).toNatClampNeg)).2) o x4 t0))
def B_Law_law_677 (sc : Nat × (Nat → Int32)) (r23 : DS → FS → WS → MS → SS → GS → RS → OS → Int32 → Option (Int32 × (DS × FS × WS × MS × SS × GS × RS × OS))) (d : DS) (f : FS) (w : WS) (m : MS) (s : SS) (g : GS) (r : RS) (o : OS) (x4 : Int32) : Option (Int32 × (DS × FS × WS × MS × SS × GS × RS × OS)) :=
  if inB (x4 + 1) sc.1 then (bnd (f_Law_charge d f w m s g r o (sc.2 (x4 + 1).toNatClampNeg)) (fun q => B_Law_law_687 sc r23 q.2 f w m s g r o x4 q.1)) else none
theorem e_B_Law_law_677 {sc : Nat × (Nat → Int32)} {tl : List mn_E} {kk : Nat} (r23 : DS → FS → WS → MS → SS → GS → RS → OS → Int32 → Option (Int32 × (DS × FS × WS × MS × SS × GS × RS × OS))) (hr23 : ∀ (d : DS) (f : FS) (w : WS) (m : MS) (s : SS) (g : GS) (r : RS) (o : OS) (x4 : Int32), Ev sc 404 6259 kk (6 * kk) M_Law_law 23 [(0, .ref 1000000), (1, .ref 0), (2, .ref 12), (3, .ref 30), (4, .int x4)] [] (eLV :: (HD d (HF f (HW w (HM m (HS s (HG g (HR r (HO o tl))))))))) (mapR ouI (fun z => (eLV :: (HD z.1 (HF z.2.1 (HW z.2.2.1 (HM z.2.2.2.1 (HS z.2.2.2.2.1 (HG z.2.2.2.2.2.1 (HR z.2.2.2.2.2.2.1 (HO z.2.2.2.2.2.2.2 tl)))))))))) (r23 d f w m s g r o x4))) (d : DS) (f : FS) (w : WS) (m : MS) (s : SS) (g : GS) (r : RS) (o : OS) (x4 : Int32) : Ev sc 404 6259 (kk + 1) (6 * kk + 6) M_Law_law 677 [(0, .ref 1000000), (1, .ref 0), (2, .ref 12), (3, .ref 30), (4, .int x4)] [] (eLV :: (HD d (HF f (HW w (HM m (HS s (HG g (HR r (HO o tl))))))))) (mapR ouI (fun z => (eLV :: (HD z.1 (HF z.2.1 (HW z.2.2.1 (HM z.2.2.2.1 (HS z.2.2.2.2.1 (HG z.2.2.2.2.2.1 (HR z.2.2.2.2.2.2.1 (HO z.2.2.2.2.2.2.2 tl)))))))))) (B_Law_law_677 sc r23 d f w m s g r o x4)) := by
  unfold B_Law_law_677
  refine ev_aload_n d_Law_law_677 rfl rfl ?_
  refine ev_aload_n d_Law_law_678 rfl rfl ?_
  refine ev_iload d_Law_law_679 rfl ?_
  refine ev_iconst (v := 1) d_Law_law_681 rfl ?_
  refine ev_iadd d_Law_law_682 ?_
  refine ev_inB (fun h1 => ?_)
  refine ev_sld (inB_of h1) d_Law_law_683 ?_
  refine ev_callBK (k1 := 1) (n1 := 6) (k2 := kk) (n2 := 6 * kk) (rc := (f_Law_charge d f w m s g r o (sc.2 (x4 + 1).toNatClampNeg))) (ou := ouI) (Hs := (fun z => (eLV :: (HD z (HF f (HW w (HM m (HS s (HG g (HR r (HO o tl))))))))))) (inv_S (av := [.ref 0, .int (sc.2 (x4 + 1).toNatClampNeg)]) (rest := []) d_Law_law_684 gw_980 gw_981 gw_101 mw_Law_charge nh_Law_charge pn_Law_charge rfl) d_Law_law_684 pl_Law_charge (Nat.le_of_ble_eq_true rfl) (Nat.le_of_ble_eq_true rfl) (Nat.le_of_ble_eq_true rfl) (by omega) (by omega) (e_f_Law_charge (tl := tl)  d f w m s g r o (sc.2 (x4 + 1).toNatClampNeg)) (fun _ => (len1 (lenHD (lenHF (lenHW (lenHM (lenHS (lenHG (lenHR (lenHO rfl)))))))))) (fun v z h2 => ⟨_, rfl, ?_⟩)
  exact ev_pick [0, 1, 2, 3, 4] rfl (ev_widen (Nat.le_refl _) (Nat.le_refl _) (by omega) (by omega) (e_B_Law_law_687   r23 hr23 z f w m s g r o x4 v))
def B_Law_law_757 (sc : Nat × (Nat → Int32)) (r23 : DS → FS → WS → MS → SS → GS → RS → OS → Int32 → Option (Int32 × (DS × FS × WS × MS × SS × GS × RS × OS))) (d : DS) (f : FS) (w : WS) (m : MS) (s : SS) (g : GS) (r : RS) (o : OS) (x4 : Int32) (t0 : Int32) (t1 : Int32) : Option (Int32 × (DS × FS × WS × MS × SS × GS × RS × OS)) :=
  if t0 = t1 then (B_Law_law_948 sc r23 d f w m s g r o x4) else (some (0, (d, f, w, m, s, g, r, o)))
theorem e_B_Law_law_757 {sc : Nat × (Nat → Int32)} {tl : List mn_E} {kk : Nat} (r23 : DS → FS → WS → MS → SS → GS → RS → OS → Int32 → Option (Int32 × (DS × FS × WS × MS × SS × GS × RS × OS))) (hr23 : ∀ (d : DS) (f : FS) (w : WS) (m : MS) (s : SS) (g : GS) (r : RS) (o : OS) (x4 : Int32), Ev sc 404 6259 kk (6 * kk) M_Law_law 23 [(0, .ref 1000000), (1, .ref 0), (2, .ref 12), (3, .ref 30), (4, .int x4)] [] (eLV :: (HD d (HF f (HW w (HM m (HS s (HG g (HR r (HO o tl))))))))) (mapR ouI (fun z => (eLV :: (HD z.1 (HF z.2.1 (HW z.2.2.1 (HM z.2.2.2.1 (HS z.2.2.2.2.1 (HG z.2.2.2.2.2.1 (HR z.2.2.2.2.2.2.1 (HO z.2.2.2.2.2.2.2 tl)))))))))) (r23 d f w m s g r o x4))) (d : DS) (f : FS) (w : WS) (m : MS) (s : SS) (g : GS) (r : RS) (o : OS) (x4 : Int32) (t0 : Int32) (t1 : Int32) : Ev sc 404 6259 (kk + 0) (6 * kk + 0) M_Law_law 757 [(0, .ref 1000000), (1, .ref 0), (2, .ref 12), (3, .ref 30), (4, .int x4)] [.int t1, .int t0] (eLV :: (HD d (HF f (HW w (HM m (HS s (HG g (HR r (HO o tl))))))))) (mapR ouI (fun z => (eLV :: (HD z.1 (HF z.2.1 (HW z.2.2.1 (HM z.2.2.2.1 (HS z.2.2.2.2.1 (HG z.2.2.2.2.2.1 (HR z.2.2.2.2.2.2.1 (HO z.2.2.2.2.2.2.2 tl)))))))))) (B_Law_law_757 sc r23 d f w m s g r o x4 t0 t1)) := by
  unfold B_Law_law_757
  refine ev_icmp_eq (tgt := 948) d_Law_law_757 rfl (fun h1 => ?_) (fun h1 => ?_)
  · rw [if_pos h1]
    exact ev_pick [0, 1, 2, 3, 4] rfl (ev_widen (Nat.le_refl _) (Nat.le_refl _) (by omega) (by omega) (e_B_Law_law_948   r23 hr23 d f w m s g r o x4))
  · rw [if_neg h1]
    refine ev_iconst (v := 0) d_Law_law_760 rfl ?_
    exact ev_widen (Nat.zero_le _) (Nat.zero_le _) (Nat.zero_le _) (Nat.zero_le _) (ev_zret (ty := .boolean) rfl rfl d_Law_law_761)
def B_Law_law_735 (sc : Nat × (Nat → Int32)) (r23 : DS → FS → WS → MS → SS → GS → RS → OS → Int32 → Option (Int32 × (DS × FS × WS × MS × SS × GS × RS × OS))) (d : DS) (f : FS) (w : WS) (m : MS) (s : SS) (g : GS) (r : RS) (o : OS) (x4 : Int32) (t0 : Int32) : Option (Int32 × (DS × FS × WS × MS × SS × GS × RS × OS)) :=
  if inB (x4 + 1) sc.1 then (if inB (x4 + 2) sc.1 then (if inB (x4 + 3) sc.1 then (bnd (f_Mod_spoil r (sc.2 (x4 + 1).toNatClampNeg) (sc.2 (x4 + 2).toNatClampNeg) (sc.2 (x4 + 3).toNatClampNeg)) (fun q => B_Law_law_757 sc r23 d f w m s g q.2 o x4 t0 q.1)) else none) else none) else none
theorem e_B_Law_law_735 {sc : Nat × (Nat → Int32)} {tl : List mn_E} {kk : Nat} (r23 : DS → FS → WS → MS → SS → GS → RS → OS → Int32 → Option (Int32 × (DS × FS × WS × MS × SS × GS × RS × OS))) (hr23 : ∀ (d : DS) (f : FS) (w : WS) (m : MS) (s : SS) (g : GS) (r : RS) (o : OS) (x4 : Int32), Ev sc 404 6259 kk (6 * kk) M_Law_law 23 [(0, .ref 1000000), (1, .ref 0), (2, .ref 12), (3, .ref 30), (4, .int x4)] [] (eLV :: (HD d (HF f (HW w (HM m (HS s (HG g (HR r (HO o tl))))))))) (mapR ouI (fun z => (eLV :: (HD z.1 (HF z.2.1 (HW z.2.2.1 (HM z.2.2.2.1 (HS z.2.2.2.2.1 (HG z.2.2.2.2.2.1 (HR z.2.2.2.2.2.2.1 (HO z.2.2.2.2.2.2.2 tl)))))))))) (r23 d f w m s g r o x4))) (d : DS) (f : FS) (w : WS) (m : MS) (s : SS) (g : GS) (r : RS) (o : OS) (x4 : Int32) (t0 : Int32) : Ev sc 404 6259 (kk + 0) (6 * kk + 0) M_Law_law 735 [(0, .ref 1000000), (1, .ref 0), (2, .ref 12), (3, .ref 30), (4, .int x4)] [.int t0] (eLV :: (HD d (HF f (HW w (HM m (HS s (HG g (HR r (HO o tl))))))))) (mapR ouI (fun z => (eLV :: (HD z.1 (HF z.2.1 (HW z.2.2.1 (HM z.2.2.2.1 (HS z.2.2.2.2.1 (HG z.2.2.2.2.2.1 (HR z.2.2.2.2.2.2.1 (HO z.2.2.2.2.2.2.2 tl)))))))))) (B_Law_law_735 sc r23 d f w m s g r o x4 t0)) := by
  unfold B_Law_law_735
  refine ev_aload_n d_Law_law_735 rfl rfl ?_
  refine ev_aload_n d_Law_law_736 rfl rfl ?_
  refine ev_iload d_Law_law_737 rfl ?_
  refine ev_iconst (v := 1) d_Law_law_739 rfl ?_
  refine ev_iadd d_Law_law_740 ?_
  refine ev_inB (fun h1 => ?_)
  refine ev_sld (inB_of h1) d_Law_law_741 ?_
  refine ev_aload_n d_Law_law_742 rfl rfl ?_
  refine ev_iload d_Law_law_743 rfl ?_
  refine ev_iconst (v := 2) d_Law_law_745 rfl ?_
  refine ev_iadd d_Law_law_746 ?_
  refine ev_inB (fun h2 => ?_)
  refine ev_sld (inB_of h2) d_Law_law_747 ?_
  refine ev_aload_n d_Law_law_748 rfl rfl ?_
  refine ev_iload d_Law_law_749 rfl ?_
  refine ev_iconst (v := 3) d_Law_law_751 rfl ?_
  refine ev_iadd d_Law_law_752 ?_
  refine ev_inB (fun h3 => ?_)
  refine ev_sld (inB_of h3) d_Law_law_753 ?_
  refine ev_callBK (k1 := 0) (n1 := 0) (rc := (f_Mod_spoil r (sc.2 (x4 + 1).toNatClampNeg) (sc.2 (x4 + 2).toNatClampNeg) (sc.2 (x4 + 3).toNatClampNeg))) (ou := ouI) (Hs := (fun z => (eLV :: (HD d (HF f (HW w (HM m (HS s (HG g (HR z (HO o tl))))))))))) (inv_V (q := 12) (av := [.int (sc.2 (x4 + 1).toNatClampNeg), .int (sc.2 (x4 + 2).toNatClampNeg), .int (sc.2 (x4 + 3).toNatClampNeg)]) (rest := [.int t0]) rfl (ci := 6) rfl d_Law_law_754 gw_1348 gw_1349 gw_1350 mw_Mod_spoil nh_Mod_spoil pn_Mod_spoil rfl) d_Law_law_754 pl_Mod_spoil (Nat.le_of_ble_eq_true rfl) (Nat.le_of_ble_eq_true rfl) (Nat.le_of_ble_eq_true rfl) (Nat.zero_add _) (Nat.zero_add _) (e_f_Mod_spoil (tl := (HO o tl)) (d := d) (f := f) (w := w) (m := m) (s := s) (g := g)  r (sc.2 (x4 + 1).toNatClampNeg) (sc.2 (x4 + 2).toNatClampNeg) (sc.2 (x4 + 3).toNatClampNeg)) (fun _ => (len1 (lenHD (lenHF (lenHW (lenHM (lenHS (lenHG (lenHR (lenHO rfl)))))))))) (fun v z h4 => ⟨_, rfl, ?_⟩)
  exact ev_pick [0, 1, 2, 3, 4] rfl (ev_widen (Nat.le_refl _) (Nat.le_refl _) (by omega) (by omega) (e_B_Law_law_757   r23 hr23 d f w m s g z o x4 t0 v))
def B_Law_law_713 (sc : Nat × (Nat → Int32)) (r23 : DS → FS → WS → MS → SS → GS → RS → OS → Int32 → Option (Int32 × (DS × FS × WS × MS × SS × GS × RS × OS))) (d : DS) (f : FS) (w : WS) (m : MS) (s : SS) (g : GS) (r : RS) (o : OS) (x4 : Int32) : Option (Int32 × (DS × FS × WS × MS × SS × GS × RS × OS)) :=
  if inB (x4 + 1) sc.1 then (if inB (x4 + 2) sc.1 then (if inB (x4 + 3) sc.1 then (B_Law_law_735 sc r23 ((f_LV_spoil d f w m s g (sc.2 (x4 + 1).toNatClampNeg) (sc.2 (x4 + 2).toNatClampNeg) (sc.2 (x4 + 3).toNatClampNeg)).2) f w m s g r o x4 ((f_LV_spoil d f w m s g (sc.2 (x4 + 1).toNatClampNeg) (sc.2 (x4 + 2).toNatClampNeg) (sc.2 (x4 + 3).toNatClampNeg)).1)) else none) else none) else none
theorem e_B_Law_law_713 {sc : Nat × (Nat → Int32)} {tl : List mn_E} {kk : Nat} (r23 : DS → FS → WS → MS → SS → GS → RS → OS → Int32 → Option (Int32 × (DS × FS × WS × MS × SS × GS × RS × OS))) (hr23 : ∀ (d : DS) (f : FS) (w : WS) (m : MS) (s : SS) (g : GS) (r : RS) (o : OS) (x4 : Int32), Ev sc 404 6259 kk (6 * kk) M_Law_law 23 [(0, .ref 1000000), (1, .ref 0), (2, .ref 12), (3, .ref 30), (4, .int x4)] [] (eLV :: (HD d (HF f (HW w (HM m (HS s (HG g (HR r (HO o tl))))))))) (mapR ouI (fun z => (eLV :: (HD z.1 (HF z.2.1 (HW z.2.2.1 (HM z.2.2.2.1 (HS z.2.2.2.2.1 (HG z.2.2.2.2.2.1 (HR z.2.2.2.2.2.2.1 (HO z.2.2.2.2.2.2.2 tl)))))))))) (r23 d f w m s g r o x4))) (d : DS) (f : FS) (w : WS) (m : MS) (s : SS) (g : GS) (r : RS) (o : OS) (x4 : Int32) : Ev sc 404 6259 (kk + 0) (6 * kk + 0) M_Law_law 713 [(0, .ref 1000000), (1, .ref 0), (2, .ref 12), (3, .ref 30), (4, .int x4)] [] (eLV :: (HD d (HF f (HW w (HM m (HS s (HG g (HR r (HO o tl))))))))) (mapR ouI (fun z => (eLV :: (HD z.1 (HF z.2.1 (HW z.2.2.1 (HM z.2.2.2.1 (HS z.2.2.2.2.1 (HG z.2.2.2.2.2.1 (HR z.2.2.2.2.2.2.1 (HO z.2.2.2.2.2.2.2 tl)))))))))) (B_Law_law_713 sc r23 d f w m s g r o x4)) := by
  unfold B_Law_law_713
  refine ev_aload_n d_Law_law_713 rfl rfl ?_
  refine ev_aload_n d_Law_law_714 rfl rfl ?_
  refine ev_iload d_Law_law_715 rfl ?_
  refine ev_iconst (v := 1) d_Law_law_717 rfl ?_
  refine ev_iadd d_Law_law_718 ?_
  refine ev_inB (fun h1 => ?_)
  refine ev_sld (inB_of h1) d_Law_law_719 ?_
  refine ev_aload_n d_Law_law_720 rfl rfl ?_
  refine ev_iload d_Law_law_721 rfl ?_
  refine ev_iconst (v := 2) d_Law_law_723 rfl ?_
  refine ev_iadd d_Law_law_724 ?_
  refine ev_inB (fun h2 => ?_)
  refine ev_sld (inB_of h2) d_Law_law_725 ?_
  refine ev_aload_n d_Law_law_726 rfl rfl ?_
  refine ev_iload d_Law_law_727 rfl ?_
  refine ev_iconst (v := 3) d_Law_law_729 rfl ?_
  refine ev_iadd d_Law_law_730 ?_
  refine ev_inB (fun h3 => ?_)
  refine ev_sld (inB_of h3) d_Law_law_731 ?_
  refine ev_callr (Mc := M_LV_spoil) (v := some (.int ((f_LV_spoil d f w m s g (sc.2 (x4 + 1).toNatClampNeg) (sc.2 (x4 + 2).toNatClampNeg) (sc.2 (x4 + 3).toNatClampNeg)).1))) (h1 := (eLV :: (HD ((f_LV_spoil d f w m s g (sc.2 (x4 + 1).toNatClampNeg) (sc.2 (x4 + 2).toNatClampNeg) (sc.2 (x4 + 3).toNatClampNeg)).2) (HF f (HW w (HM m (HS s (HG g (HR r (HO o tl)))))))))) (k1 := 0) (n1 := 0) (inv_V (q := 0) (av := [.int (sc.2 (x4 + 1).toNatClampNeg), .int (sc.2 (x4 + 2).toNatClampNeg), .int (sc.2 (x4 + 3).toNatClampNeg)]) (rest := []) rfl (ci := 0) rfl d_Law_law_732 gw_499 gw_500 gw_501 mw_LV_spoil nh_LV_spoil pn_LV_spoil rfl) d_Law_law_732 pl_LV_spoil (Nat.le_of_ble_eq_true rfl) (Nat.le_of_ble_eq_true rfl) (Nat.le_of_ble_eq_true rfl) (Nat.zero_add _) (Nat.zero_add _) (e_f_LV_spoil (tl := (HR r (HO o tl)))  d f w m s g (sc.2 (x4 + 1).toNatClampNeg) (sc.2 (x4 + 2).toNatClampNeg) (sc.2 (x4 + 3).toNatClampNeg)) (Or.inl (len1 (lenHD (lenHF (lenHW (lenHM (lenHS (lenHG (lenHR (lenHO rfl)))))))))) ?_
  exact ev_pick [0, 1, 2, 3, 4] rfl (ev_widen (Nat.le_refl _) (Nat.le_refl _) (by omega) (by omega) (e_B_Law_law_735   r23 hr23 ((f_LV_spoil d f w m s g (sc.2 (x4 + 1).toNatClampNeg) (sc.2 (x4 + 2).toNatClampNeg) (sc.2 (x4 + 3).toNatClampNeg)).2) f w m s g r o x4 ((f_LV_spoil d f w m s g (sc.2 (x4 + 1).toNatClampNeg) (sc.2 (x4 + 2).toNatClampNeg) (sc.2 (x4 + 3).toNatClampNeg)).1)))
def B_Law_law_782 (sc : Nat × (Nat → Int32)) (r23 : DS → FS → WS → MS → SS → GS → RS → OS → Int32 → Option (Int32 × (DS × FS × WS × MS × SS × GS × RS × OS))) (d : DS) (f : FS) (w : WS) (m : MS) (s : SS) (g : GS) (r : RS) (o : OS) (x4 : Int32) (t0 : Int32) (t1 : Int32) : Option (Int32 × (DS × FS × WS × MS × SS × GS × RS × OS)) :=
  if t0 = t1 then (B_Law_law_948 sc r23 d f w m s g r o x4) else (some (0, (d, f, w, m, s, g, r, o)))
theorem e_B_Law_law_782 {sc : Nat × (Nat → Int32)} {tl : List mn_E} {kk : Nat} (r23 : DS → FS → WS → MS → SS → GS → RS → OS → Int32 → Option (Int32 × (DS × FS × WS × MS × SS × GS × RS × OS))) (hr23 : ∀ (d : DS) (f : FS) (w : WS) (m : MS) (s : SS) (g : GS) (r : RS) (o : OS) (x4 : Int32), Ev sc 404 6259 kk (6 * kk) M_Law_law 23 [(0, .ref 1000000), (1, .ref 0), (2, .ref 12), (3, .ref 30), (4, .int x4)] [] (eLV :: (HD d (HF f (HW w (HM m (HS s (HG g (HR r (HO o tl))))))))) (mapR ouI (fun z => (eLV :: (HD z.1 (HF z.2.1 (HW z.2.2.1 (HM z.2.2.2.1 (HS z.2.2.2.2.1 (HG z.2.2.2.2.2.1 (HR z.2.2.2.2.2.2.1 (HO z.2.2.2.2.2.2.2 tl)))))))))) (r23 d f w m s g r o x4))) (d : DS) (f : FS) (w : WS) (m : MS) (s : SS) (g : GS) (r : RS) (o : OS) (x4 : Int32) (t0 : Int32) (t1 : Int32) : Ev sc 404 6259 (kk + 0) (6 * kk + 0) M_Law_law 782 [(0, .ref 1000000), (1, .ref 0), (2, .ref 12), (3, .ref 30), (4, .int x4)] [.int t1, .int t0] (eLV :: (HD d (HF f (HW w (HM m (HS s (HG g (HR r (HO o tl))))))))) (mapR ouI (fun z => (eLV :: (HD z.1 (HF z.2.1 (HW z.2.2.1 (HM z.2.2.2.1 (HS z.2.2.2.2.1 (HG z.2.2.2.2.2.1 (HR z.2.2.2.2.2.2.1 (HO z.2.2.2.2.2.2.2 tl)))))))))) (B_Law_law_782 sc r23 d f w m s g r o x4 t0 t1)) := by
  unfold B_Law_law_782
  refine ev_icmp_eq (tgt := 948) d_Law_law_782 rfl (fun h1 => ?_) (fun h1 => ?_)
  · rw [if_pos h1]
    exact ev_pick [0, 1, 2, 3, 4] rfl (ev_widen (Nat.le_refl _) (Nat.le_refl _) (by omega) (by omega) (e_B_Law_law_948   r23 hr23 d f w m s g r o x4))
  · rw [if_neg h1]
    refine ev_iconst (v := 0) d_Law_law_785 rfl ?_
    exact ev_widen (Nat.zero_le _) (Nat.zero_le _) (Nat.zero_le _) (Nat.zero_le _) (ev_zret (ty := .boolean) rfl rfl d_Law_law_786)
def B_Law_law_772 (sc : Nat × (Nat → Int32)) (r23 : DS → FS → WS → MS → SS → GS → RS → OS → Int32 → Option (Int32 × (DS × FS × WS × MS × SS × GS × RS × OS))) (d : DS) (f : FS) (w : WS) (m : MS) (s : SS) (g : GS) (r : RS) (o : OS) (x4 : Int32) (t0 : Int32) : Option (Int32 × (DS × FS × WS × MS × SS × GS × RS × OS)) :=
  if inB (x4 + 1) sc.1 then (bnd (f_Mod_scratch r (sc.2 (x4 + 1).toNatClampNeg)) (fun q => B_Law_law_782 sc r23 d f w m s g q.2 o x4 t0 q.1)) else none
theorem e_B_Law_law_772 {sc : Nat × (Nat → Int32)} {tl : List mn_E} {kk : Nat} (r23 : DS → FS → WS → MS → SS → GS → RS → OS → Int32 → Option (Int32 × (DS × FS × WS × MS × SS × GS × RS × OS))) (hr23 : ∀ (d : DS) (f : FS) (w : WS) (m : MS) (s : SS) (g : GS) (r : RS) (o : OS) (x4 : Int32), Ev sc 404 6259 kk (6 * kk) M_Law_law 23 [(0, .ref 1000000), (1, .ref 0), (2, .ref 12), (3, .ref 30), (4, .int x4)] [] (eLV :: (HD d (HF f (HW w (HM m (HS s (HG g (HR r (HO o tl))))))))) (mapR ouI (fun z => (eLV :: (HD z.1 (HF z.2.1 (HW z.2.2.1 (HM z.2.2.2.1 (HS z.2.2.2.2.1 (HG z.2.2.2.2.2.1 (HR z.2.2.2.2.2.2.1 (HO z.2.2.2.2.2.2.2 tl)))))))))) (r23 d f w m s g r o x4))) (d : DS) (f : FS) (w : WS) (m : MS) (s : SS) (g : GS) (r : RS) (o : OS) (x4 : Int32) (t0 : Int32) : Ev sc 404 6259 (kk + 0) (6 * kk + 0) M_Law_law 772 [(0, .ref 1000000), (1, .ref 0), (2, .ref 12), (3, .ref 30), (4, .int x4)] [.int t0] (eLV :: (HD d (HF f (HW w (HM m (HS s (HG g (HR r (HO o tl))))))))) (mapR ouI (fun z => (eLV :: (HD z.1 (HF z.2.1 (HW z.2.2.1 (HM z.2.2.2.1 (HS z.2.2.2.2.1 (HG z.2.2.2.2.2.1 (HR z.2.2.2.2.2.2.1 (HO z.2.2.2.2.2.2.2 tl)))))))))) (B_Law_law_772 sc r23 d f w m s g r o x4 t0)) := by
  unfold B_Law_law_772
  refine ev_aload_n d_Law_law_772 rfl rfl ?_
  refine ev_aload_n d_Law_law_773 rfl rfl ?_
  refine ev_iload d_Law_law_774 rfl ?_
  refine ev_iconst (v := 1) d_Law_law_776 rfl ?_
  refine ev_iadd d_Law_law_777 ?_
  refine ev_inB (fun h1 => ?_)
  refine ev_sld (inB_of h1) d_Law_law_778 ?_
  refine ev_callBK (k1 := 0) (n1 := 0) (rc := (f_Mod_scratch r (sc.2 (x4 + 1).toNatClampNeg))) (ou := ouI) (Hs := (fun z => (eLV :: (HD d (HF f (HW w (HM m (HS s (HG g (HR z (HO o tl))))))))))) (inv_V (q := 12) (av := [.int (sc.2 (x4 + 1).toNatClampNeg)]) (rest := [.int t0]) rfl (ci := 6) rfl d_Law_law_779 gw_1355 gw_1356 gw_1357 mw_Mod_scratch nh_Mod_scratch pn_Mod_scratch rfl) d_Law_law_779 pl_Mod_scratch (Nat.le_of_ble_eq_true rfl) (Nat.le_of_ble_eq_true rfl) (Nat.le_of_ble_eq_true rfl) (Nat.zero_add _) (Nat.zero_add _) (e_f_Mod_scratch (tl := (HO o tl)) (d := d) (f := f) (w := w) (m := m) (s := s) (g := g)  r (sc.2 (x4 + 1).toNatClampNeg)) (fun _ => (len1 (lenHD (lenHF (lenHW (lenHM (lenHS (lenHG (lenHR (lenHO rfl)))))))))) (fun v z h2 => ⟨_, rfl, ?_⟩)
  exact ev_pick [0, 1, 2, 3, 4] rfl (ev_widen (Nat.le_refl _) (Nat.le_refl _) (by omega) (by omega) (e_B_Law_law_782   r23 hr23 d f w m s g z o x4 t0 v))
def B_Law_law_762 (sc : Nat × (Nat → Int32)) (r23 : DS → FS → WS → MS → SS → GS → RS → OS → Int32 → Option (Int32 × (DS × FS × WS × MS × SS × GS × RS × OS))) (d : DS) (f : FS) (w : WS) (m : MS) (s : SS) (g : GS) (r : RS) (o : OS) (x4 : Int32) : Option (Int32 × (DS × FS × WS × MS × SS × GS × RS × OS)) :=
  if inB (x4 + 1) sc.1 then (B_Law_law_772 sc r23 ((f_LV_scratch d f w m s g (sc.2 (x4 + 1).toNatClampNeg)).2) f w m s g r o x4 ((f_LV_scratch d f w m s g (sc.2 (x4 + 1).toNatClampNeg)).1)) else none
theorem e_B_Law_law_762 {sc : Nat × (Nat → Int32)} {tl : List mn_E} {kk : Nat} (r23 : DS → FS → WS → MS → SS → GS → RS → OS → Int32 → Option (Int32 × (DS × FS × WS × MS × SS × GS × RS × OS))) (hr23 : ∀ (d : DS) (f : FS) (w : WS) (m : MS) (s : SS) (g : GS) (r : RS) (o : OS) (x4 : Int32), Ev sc 404 6259 kk (6 * kk) M_Law_law 23 [(0, .ref 1000000), (1, .ref 0), (2, .ref 12), (3, .ref 30), (4, .int x4)] [] (eLV :: (HD d (HF f (HW w (HM m (HS s (HG g (HR r (HO o tl))))))))) (mapR ouI (fun z => (eLV :: (HD z.1 (HF z.2.1 (HW z.2.2.1 (HM z.2.2.2.1 (HS z.2.2.2.2.1 (HG z.2.2.2.2.2.1 (HR z.2.2.2.2.2.2.1 (HO z.2.2.2.2.2.2.2 tl)))))))))) (r23 d f w m s g r o x4))) (d : DS) (f : FS) (w : WS) (m : MS) (s : SS) (g : GS) (r : RS) (o : OS) (x4 : Int32) : Ev sc 404 6259 (kk + 0) (6 * kk + 0) M_Law_law 762 [(0, .ref 1000000), (1, .ref 0), (2, .ref 12), (3, .ref 30), (4, .int x4)] [] (eLV :: (HD d (HF f (HW w (HM m (HS s (HG g (HR r (HO o tl))))))))) (mapR ouI (fun z => (eLV :: (HD z.1 (HF z.2.1 (HW z.2.2.1 (HM z.2.2.2.1 (HS z.2.2.2.2.1 (HG z.2.2.2.2.2.1 (HR z.2.2.2.2.2.2.1 (HO z.2.2.2.2.2.2.2 tl)))))))))) (B_Law_law_762 sc r23 d f w m s g r o x4)) := by
  unfold B_Law_law_762
  refine ev_aload_n d_Law_law_762 rfl rfl ?_
  refine ev_aload_n d_Law_law_763 rfl rfl ?_
  refine ev_iload d_Law_law_764 rfl ?_
  refine ev_iconst (v := 1) d_Law_law_766 rfl ?_
  refine ev_iadd d_Law_law_767 ?_
  refine ev_inB (fun h1 => ?_)
  refine ev_sld (inB_of h1) d_Law_law_768 ?_
  refine ev_callr (Mc := M_LV_scratch) (v := some (.int ((f_LV_scratch d f w m s g (sc.2 (x4 + 1).toNatClampNeg)).1))) (h1 := (eLV :: (HD ((f_LV_scratch d f w m s g (sc.2 (x4 + 1).toNatClampNeg)).2) (HF f (HW w (HM m (HS s (HG g (HR r (HO o tl)))))))))) (k1 := 0) (n1 := 0) (inv_V (q := 0) (av := [.int (sc.2 (x4 + 1).toNatClampNeg)]) (rest := []) rfl (ci := 0) rfl d_Law_law_769 gw_505 gw_506 gw_507 mw_LV_scratch nh_LV_scratch pn_LV_scratch rfl) d_Law_law_769 pl_LV_scratch (Nat.le_of_ble_eq_true rfl) (Nat.le_of_ble_eq_true rfl) (Nat.le_of_ble_eq_true rfl) (Nat.zero_add _) (Nat.zero_add _) (e_f_LV_scratch (tl := (HR r (HO o tl)))  d f w m s g (sc.2 (x4 + 1).toNatClampNeg)) (Or.inl (len1 (lenHD (lenHF (lenHW (lenHM (lenHS (lenHG (lenHR (lenHO rfl)))))))))) ?_
  exact ev_pick [0, 1, 2, 3, 4] rfl (ev_widen (Nat.le_refl _) (Nat.le_refl _) (by omega) (by omega) (e_B_Law_law_772   r23 hr23 ((f_LV_scratch d f w m s g (sc.2 (x4 + 1).toNatClampNeg)).2) f w m s g r o x4 ((f_LV_scratch d f w m s g (sc.2 (x4 + 1).toNatClampNeg)).1)))
def B_Law_law_819 (sc : Nat × (Nat → Int32)) (r23 : DS → FS → WS → MS → SS → GS → RS → OS → Int32 → Option (Int32 × (DS × FS × WS × MS × SS × GS × RS × OS))) (d : DS) (f : FS) (w : WS) (m : MS) (s : SS) (g : GS) (r : RS) (o : OS) (x4 : Int32) (t0 : Int32) (t1 : Int32) : Option (Int32 × (DS × FS × WS × MS × SS × GS × RS × OS)) :=
  if t0 = t1 then (B_Law_law_948 sc r23 d f w m s g r o x4) else (some (0, (d, f, w, m, s, g, r, o)))
theorem e_B_Law_law_819 {sc : Nat × (Nat → Int32)} {tl : List mn_E} {kk : Nat} (r23 : DS → FS → WS → MS → SS → GS → RS → OS → Int32 → Option (Int32 × (DS × FS × WS × MS × SS × GS × RS × OS))) (hr23 : ∀ (d : DS) (f : FS) (w : WS) (m : MS) (s : SS) (g : GS) (r : RS) (o : OS) (x4 : Int32), Ev sc 404 6259 kk (6 * kk) M_Law_law 23 [(0, .ref 1000000), (1, .ref 0), (2, .ref 12), (3, .ref 30), (4, .int x4)] [] (eLV :: (HD d (HF f (HW w (HM m (HS s (HG g (HR r (HO o tl))))))))) (mapR ouI (fun z => (eLV :: (HD z.1 (HF z.2.1 (HW z.2.2.1 (HM z.2.2.2.1 (HS z.2.2.2.2.1 (HG z.2.2.2.2.2.1 (HR z.2.2.2.2.2.2.1 (HO z.2.2.2.2.2.2.2 tl)))))))))) (r23 d f w m s g r o x4))) (d : DS) (f : FS) (w : WS) (m : MS) (s : SS) (g : GS) (r : RS) (o : OS) (x4 : Int32) (t0 : Int32) (t1 : Int32) : Ev sc 404 6259 (kk + 0) (6 * kk + 0) M_Law_law 819 [(0, .ref 1000000), (1, .ref 0), (2, .ref 12), (3, .ref 30), (4, .int x4)] [.int t1, .int t0] (eLV :: (HD d (HF f (HW w (HM m (HS s (HG g (HR r (HO o tl))))))))) (mapR ouI (fun z => (eLV :: (HD z.1 (HF z.2.1 (HW z.2.2.1 (HM z.2.2.2.1 (HS z.2.2.2.2.1 (HG z.2.2.2.2.2.1 (HR z.2.2.2.2.2.2.1 (HO z.2.2.2.2.2.2.2 tl)))))))))) (B_Law_law_819 sc r23 d f w m s g r o x4 t0 t1)) := by
  unfold B_Law_law_819
  refine ev_icmp_eq (tgt := 948) d_Law_law_819 rfl (fun h1 => ?_) (fun h1 => ?_)
  · rw [if_pos h1]
    exact ev_pick [0, 1, 2, 3, 4] rfl (ev_widen (Nat.le_refl _) (Nat.le_refl _) (by omega) (by omega) (e_B_Law_law_948   r23 hr23 d f w m s g r o x4))
  · rw [if_neg h1]
    refine ev_iconst (v := 0) d_Law_law_822 rfl ?_
    exact ev_widen (Nat.zero_le _) (Nat.zero_le _) (Nat.zero_le _) (Nat.zero_le _) (ev_zret (ty := .boolean) rfl rfl d_Law_law_823)
def B_Law_law_803 (sc : Nat × (Nat → Int32)) (r23 : DS → FS → WS → MS → SS → GS → RS → OS → Int32 → Option (Int32 × (DS × FS × WS × MS × SS × GS × RS × OS))) (d : DS) (f : FS) (w : WS) (m : MS) (s : SS) (g : GS) (r : RS) (o : OS) (x4 : Int32) (t0 : Int32) : Option (Int32 × (DS × FS × WS × MS × SS × GS × RS × OS)) :=
  if inB (x4 + 1) sc.1 then (if inB (x4 + 2) sc.1 then (bnd (f_Mod_ghost r (sc.2 (x4 + 1).toNatClampNeg) (sc.2 (x4 + 2).toNatClampNeg)) (fun q => B_Law_law_819 sc r23 d f w m s g q.2 o x4 t0 q.1)) else none) else none
theorem e_B_Law_law_803 {sc : Nat × (Nat → Int32)} {tl : List mn_E} {kk : Nat} (r23 : DS → FS → WS → MS → SS → GS → RS → OS → Int32 → Option (Int32 × (DS × FS × WS × MS × SS × GS × RS × OS))) (hr23 : ∀ (d : DS) (f : FS) (w : WS) (m : MS) (s : SS) (g : GS) (r : RS) (o : OS) (x4 : Int32), Ev sc 404 6259 kk (6 * kk) M_Law_law 23 [(0, .ref 1000000), (1, .ref 0), (2, .ref 12), (3, .ref 30), (4, .int x4)] [] (eLV :: (HD d (HF f (HW w (HM m (HS s (HG g (HR r (HO o tl))))))))) (mapR ouI (fun z => (eLV :: (HD z.1 (HF z.2.1 (HW z.2.2.1 (HM z.2.2.2.1 (HS z.2.2.2.2.1 (HG z.2.2.2.2.2.1 (HR z.2.2.2.2.2.2.1 (HO z.2.2.2.2.2.2.2 tl)))))))))) (r23 d f w m s g r o x4))) (d : DS) (f : FS) (w : WS) (m : MS) (s : SS) (g : GS) (r : RS) (o : OS) (x4 : Int32) (t0 : Int32) : Ev sc 404 6259 (kk + 0) (6 * kk + 0) M_Law_law 803 [(0, .ref 1000000), (1, .ref 0), (2, .ref 12), (3, .ref 30), (4, .int x4)] [.int t0] (eLV :: (HD d (HF f (HW w (HM m (HS s (HG g (HR r (HO o tl))))))))) (mapR ouI (fun z => (eLV :: (HD z.1 (HF z.2.1 (HW z.2.2.1 (HM z.2.2.2.1 (HS z.2.2.2.2.1 (HG z.2.2.2.2.2.1 (HR z.2.2.2.2.2.2.1 (HO z.2.2.2.2.2.2.2 tl)))))))))) (B_Law_law_803 sc r23 d f w m s g r o x4 t0)) := by
  unfold B_Law_law_803
  refine ev_aload_n d_Law_law_803 rfl rfl ?_
  refine ev_aload_n d_Law_law_804 rfl rfl ?_
  refine ev_iload d_Law_law_805 rfl ?_
  refine ev_iconst (v := 1) d_Law_law_807 rfl ?_
  refine ev_iadd d_Law_law_808 ?_
  refine ev_inB (fun h1 => ?_)
  refine ev_sld (inB_of h1) d_Law_law_809 ?_
  refine ev_aload_n d_Law_law_810 rfl rfl ?_
  refine ev_iload d_Law_law_811 rfl ?_
  refine ev_iconst (v := 2) d_Law_law_813 rfl ?_
  refine ev_iadd d_Law_law_814 ?_
  refine ev_inB (fun h2 => ?_)
  refine ev_sld (inB_of h2) d_Law_law_815 ?_
  refine ev_callBK (k1 := 0) (n1 := 0) (rc := (f_Mod_ghost r (sc.2 (x4 + 1).toNatClampNeg) (sc.2 (x4 + 2).toNatClampNeg))) (ou := ouI) (Hs := (fun z => (eLV :: (HD d (HF f (HW w (HM m (HS s (HG g (HR z (HO o tl))))))))))) (inv_V (q := 12) (av := [.int (sc.2 (x4 + 1).toNatClampNeg), .int (sc.2 (x4 + 2).toNatClampNeg)]) (rest := [.int t0]) rfl (ci := 6) rfl d_Law_law_816 gw_1359 gw_1360 gw_1361 mw_Mod_ghost nh_Mod_ghost pn_Mod_ghost rfl) d_Law_law_816 pl_Mod_ghost (Nat.le_of_ble_eq_true rfl) (Nat.le_of_ble_eq_true rfl) (Nat.le_of_ble_eq_true rfl) (Nat.zero_add _) (Nat.zero_add _) (e_f_Mod_ghost (tl := (HO o tl)) (d := d) (f := f) (w := w) (m := m) (s := s) (g := g)  r (sc.2 (x4 + 1).toNatClampNeg) (sc.2 (x4 + 2).toNatClampNeg)) (fun _ => (len1 (lenHD (lenHF (lenHW (lenHM (lenHS (lenHG (lenHR (lenHO rfl)))))))))) (fun v z h3 => ⟨_, rfl, ?_⟩)
  exact ev_pick [0, 1, 2, 3, 4] rfl (ev_widen (Nat.le_refl _) (Nat.le_refl _) (by omega) (by omega) (e_B_Law_law_819   r23 hr23 d f w m s g z o x4 t0 v))
def B_Law_law_787 (sc : Nat × (Nat → Int32)) (r23 : DS → FS → WS → MS → SS → GS → RS → OS → Int32 → Option (Int32 × (DS × FS × WS × MS × SS × GS × RS × OS))) (d : DS) (f : FS) (w : WS) (m : MS) (s : SS) (g : GS) (r : RS) (o : OS) (x4 : Int32) : Option (Int32 × (DS × FS × WS × MS × SS × GS × RS × OS)) :=
  if inB (x4 + 1) sc.1 then (if inB (x4 + 2) sc.1 then (B_Law_law_803 sc r23 ((f_LV_ghost d f w m s g (sc.2 (x4 + 1).toNatClampNeg) (sc.2 (x4 + 2).toNatClampNeg)).2) f w m s g r o x4 ((f_LV_ghost d f w m s g (sc.2 (x4 + 1).toNatClampNeg) (sc.2 (x4 + 2).toNatClampNeg)).1)) else none) else none
theorem e_B_Law_law_787 {sc : Nat × (Nat → Int32)} {tl : List mn_E} {kk : Nat} (r23 : DS → FS → WS → MS → SS → GS → RS → OS → Int32 → Option (Int32 × (DS × FS × WS × MS × SS × GS × RS × OS))) (hr23 : ∀ (d : DS) (f : FS) (w : WS) (m : MS) (s : SS) (g : GS) (r : RS) (o : OS) (x4 : Int32), Ev sc 404 6259 kk (6 * kk) M_Law_law 23 [(0, .ref 1000000), (1, .ref 0), (2, .ref 12), (3, .ref 30), (4, .int x4)] [] (eLV :: (HD d (HF f (HW w (HM m (HS s (HG g (HR r (HO o tl))))))))) (mapR ouI (fun z => (eLV :: (HD z.1 (HF z.2.1 (HW z.2.2.1 (HM z.2.2.2.1 (HS z.2.2.2.2.1 (HG z.2.2.2.2.2.1 (HR z.2.2.2.2.2.2.1 (HO z.2.2.2.2.2.2.2 tl)))))))))) (r23 d f w m s g r o x4))) (d : DS) (f : FS) (w : WS) (m : MS) (s : SS) (g : GS) (r : RS) (o : OS) (x4 : Int32) : Ev sc 404 6259 (kk + 0) (6 * kk + 0) M_Law_law 787 [(0, .ref 1000000), (1, .ref 0), (2, .ref 12), (3, .ref 30), (4, .int x4)] [] (eLV :: (HD d (HF f (HW w (HM m (HS s (HG g (HR r (HO o tl))))))))) (mapR ouI (fun z => (eLV :: (HD z.1 (HF z.2.1 (HW z.2.2.1 (HM z.2.2.2.1 (HS z.2.2.2.2.1 (HG z.2.2.2.2.2.1 (HR z.2.2.2.2.2.2.1 (HO z.2.2.2.2.2.2.2 tl)))))))))) (B_Law_law_787 sc r23 d f w m s g r o x4)) := by
  unfold B_Law_law_787
  refine ev_aload_n d_Law_law_787 rfl rfl ?_
  refine ev_aload_n d_Law_law_788 rfl rfl ?_
  refine ev_iload d_Law_law_789 rfl ?_
  refine ev_iconst (v := 1) d_Law_law_791 rfl ?_
  refine ev_iadd d_Law_law_792 ?_
  refine ev_inB (fun h1 => ?_)
  refine ev_sld (inB_of h1) d_Law_law_793 ?_
  refine ev_aload_n d_Law_law_794 rfl rfl ?_
  refine ev_iload d_Law_law_795 rfl ?_
  refine ev_iconst (v := 2) d_Law_law_797 rfl ?_
  refine ev_iadd d_Law_law_798 ?_
  refine ev_inB (fun h2 => ?_)
  refine ev_sld (inB_of h2) d_Law_law_799 ?_
  refine ev_callr (Mc := M_LV_ghost) (v := some (.int ((f_LV_ghost d f w m s g (sc.2 (x4 + 1).toNatClampNeg) (sc.2 (x4 + 2).toNatClampNeg)).1))) (h1 := (eLV :: (HD ((f_LV_ghost d f w m s g (sc.2 (x4 + 1).toNatClampNeg) (sc.2 (x4 + 2).toNatClampNeg)).2) (HF f (HW w (HM m (HS s (HG g (HR r (HO o tl)))))))))) (k1 := 0) (n1 := 0) (inv_V (q := 0) (av := [.int (sc.2 (x4 + 1).toNatClampNeg), .int (sc.2 (x4 + 2).toNatClampNeg)]) (rest := []) rfl (ci := 0) rfl d_Law_law_800 gw_518 gw_519 gw_520 mw_LV_ghost nh_LV_ghost pn_LV_ghost rfl) d_Law_law_800 pl_LV_ghost (Nat.le_of_ble_eq_true rfl) (Nat.le_of_ble_eq_true rfl) (Nat.le_of_ble_eq_true rfl) (Nat.zero_add _) (Nat.zero_add _) (e_f_LV_ghost (tl := (HR r (HO o tl)))  d f w m s g (sc.2 (x4 + 1).toNatClampNeg) (sc.2 (x4 + 2).toNatClampNeg)) (Or.inl (len1 (lenHD (lenHF (lenHW (lenHM (lenHS (lenHG (lenHR (lenHO rfl)))))))))) ?_
  exact ev_pick [0, 1, 2, 3, 4] rfl (ev_widen (Nat.le_refl _) (Nat.le_refl _) (by omega) (by omega) (e_B_Law_law_803   r23 hr23 ((f_LV_ghost d f w m s g (sc.2 (x4 + 1).toNatClampNeg) (sc.2 (x4 + 2).toNatClampNeg)).2) f w m s g r o x4 ((f_LV_ghost d f w m s g (sc.2 (x4 + 1).toNatClampNeg) (sc.2 (x4 + 2).toNatClampNeg)).1)))
def B_Law_law_856 (sc : Nat × (Nat → Int32)) (r23 : DS → FS → WS → MS → SS → GS → RS → OS → Int32 → Option (Int32 × (DS × FS × WS × MS × SS × GS × RS × OS))) (d : DS) (f : FS) (w : WS) (m : MS) (s : SS) (g : GS) (r : RS) (o : OS) (x4 : Int32) (t0 : Int32) (t1 : Int32) : Option (Int32 × (DS × FS × WS × MS × SS × GS × RS × OS)) :=
  if t0 = t1 then (B_Law_law_948 sc r23 d f w m s g r o x4) else (some (0, (d, f, w, m, s, g, r, o)))
theorem e_B_Law_law_856 {sc : Nat × (Nat → Int32)} {tl : List mn_E} {kk : Nat} (r23 : DS → FS → WS → MS → SS → GS → RS → OS → Int32 → Option (Int32 × (DS × FS × WS × MS × SS × GS × RS × OS))) (hr23 : ∀ (d : DS) (f : FS) (w : WS) (m : MS) (s : SS) (g : GS) (r : RS) (o : OS) (x4 : Int32), Ev sc 404 6259 kk (6 * kk) M_Law_law 23 [(0, .ref 1000000), (1, .ref 0), (2, .ref 12), (3, .ref 30), (4, .int x4)] [] (eLV :: (HD d (HF f (HW w (HM m (HS s (HG g (HR r (HO o tl))))))))) (mapR ouI (fun z => (eLV :: (HD z.1 (HF z.2.1 (HW z.2.2.1 (HM z.2.2.2.1 (HS z.2.2.2.2.1 (HG z.2.2.2.2.2.1 (HR z.2.2.2.2.2.2.1 (HO z.2.2.2.2.2.2.2 tl)))))))))) (r23 d f w m s g r o x4))) (d : DS) (f : FS) (w : WS) (m : MS) (s : SS) (g : GS) (r : RS) (o : OS) (x4 : Int32) (t0 : Int32) (t1 : Int32) : Ev sc 404 6259 (kk + 0) (6 * kk + 0) M_Law_law 856 [(0, .ref 1000000), (1, .ref 0), (2, .ref 12), (3, .ref 30), (4, .int x4)] [.int t1, .int t0] (eLV :: (HD d (HF f (HW w (HM m (HS s (HG g (HR r (HO o tl))))))))) (mapR ouI (fun z => (eLV :: (HD z.1 (HF z.2.1 (HW z.2.2.1 (HM z.2.2.2.1 (HS z.2.2.2.2.1 (HG z.2.2.2.2.2.1 (HR z.2.2.2.2.2.2.1 (HO z.2.2.2.2.2.2.2 tl)))))))))) (B_Law_law_856 sc r23 d f w m s g r o x4 t0 t1)) := by
  unfold B_Law_law_856
  refine ev_icmp_eq (tgt := 948) d_Law_law_856 rfl (fun h1 => ?_) (fun h1 => ?_)
  · rw [if_pos h1]
    exact ev_pick [0, 1, 2, 3, 4] rfl (ev_widen (Nat.le_refl _) (Nat.le_refl _) (by omega) (by omega) (e_B_Law_law_948   r23 hr23 d f w m s g r o x4))
  · rw [if_neg h1]
    refine ev_iconst (v := 0) d_Law_law_859 rfl ?_
    exact ev_widen (Nat.zero_le _) (Nat.zero_le _) (Nat.zero_le _) (Nat.zero_le _) (ev_zret (ty := .boolean) rfl rfl d_Law_law_860)
def B_Law_law_824 (sc : Nat × (Nat → Int32)) (r23 : DS → FS → WS → MS → SS → GS → RS → OS → Int32 → Option (Int32 × (DS × FS × WS × MS × SS × GS × RS × OS))) (d : DS) (f : FS) (w : WS) (m : MS) (s : SS) (g : GS) (r : RS) (o : OS) (x4 : Int32) : Option (Int32 × (DS × FS × WS × MS × SS × GS × RS × OS)) :=
  if inB (x4 + 1) sc.1 then (if inB (x4 + 2) sc.1 then (if inB (x4 + 1) sc.1 then (if inB (x4 + 2) sc.1 then (bnd (f_Mod_label r (sc.2 (x4 + 1).toNatClampNeg) (sc.2 (x4 + 2).toNatClampNeg)) (fun q => B_Law_law_856 sc r23 d f w m s g q.2 o x4 ((f_LV_label d f w m s g (sc.2 (x4 + 1).toNatClampNeg) (sc.2 (x4 + 2).toNatClampNeg)).1) q.1)) else none) else none) else none) else none
theorem e_B_Law_law_824 {sc : Nat × (Nat → Int32)} {tl : List mn_E} {kk : Nat} (r23 : DS → FS → WS → MS → SS → GS → RS → OS → Int32 → Option (Int32 × (DS × FS × WS × MS × SS × GS × RS × OS))) (hr23 : ∀ (d : DS) (f : FS) (w : WS) (m : MS) (s : SS) (g : GS) (r : RS) (o : OS) (x4 : Int32), Ev sc 404 6259 kk (6 * kk) M_Law_law 23 [(0, .ref 1000000), (1, .ref 0), (2, .ref 12), (3, .ref 30), (4, .int x4)] [] (eLV :: (HD d (HF f (HW w (HM m (HS s (HG g (HR r (HO o tl))))))))) (mapR ouI (fun z => (eLV :: (HD z.1 (HF z.2.1 (HW z.2.2.1 (HM z.2.2.2.1 (HS z.2.2.2.2.1 (HG z.2.2.2.2.2.1 (HR z.2.2.2.2.2.2.1 (HO z.2.2.2.2.2.2.2 tl)))))))))) (r23 d f w m s g r o x4))) (d : DS) (f : FS) (w : WS) (m : MS) (s : SS) (g : GS) (r : RS) (o : OS) (x4 : Int32) : Ev sc 404 6259 (kk + 0) (6 * kk + 0) M_Law_law 824 [(0, .ref 1000000), (1, .ref 0), (2, .ref 12), (3, .ref 30), (4, .int x4)] [] (eLV :: (HD d (HF f (HW w (HM m (HS s (HG g (HR r (HO o tl))))))))) (mapR ouI (fun z => (eLV :: (HD z.1 (HF z.2.1 (HW z.2.2.1 (HM z.2.2.2.1 (HS z.2.2.2.2.1 (HG z.2.2.2.2.2.1 (HR z.2.2.2.2.2.2.1 (HO z.2.2.2.2.2.2.2 tl)))))))))) (B_Law_law_824 sc r23 d f w m s g r o x4)) := by
  unfold B_Law_law_824
  refine ev_aload_n d_Law_law_824 rfl rfl ?_
  refine ev_aload_n d_Law_law_825 rfl rfl ?_
  refine ev_iload d_Law_law_826 rfl ?_
  refine ev_iconst (v := 1) d_Law_law_828 rfl ?_
  refine ev_iadd d_Law_law_829 ?_
  refine ev_inB (fun h1 => ?_)
  refine ev_sld (inB_of h1) d_Law_law_830 ?_
  refine ev_aload_n d_Law_law_831 rfl rfl ?_
  refine ev_iload d_Law_law_832 rfl ?_
  refine ev_iconst (v := 2) d_Law_law_834 rfl ?_
  refine ev_iadd d_Law_law_835 ?_
  refine ev_inB (fun h2 => ?_)
  refine ev_sld (inB_of h2) d_Law_law_836 ?_
  refine ev_callr (Mc := M_LV_label) (v := some (.int ((f_LV_label d f w m s g (sc.2 (x4 + 1).toNatClampNeg) (sc.2 (x4 + 2).toNatClampNeg)).1))) (h1 := (eLV :: (HD d (HF f (HW w (HM m (HS s (HG g (HR r (HO o tl)))))))))) (k1 := 0) (n1 := 0) (inv_V (q := 0) (av := [.int (sc.2 (x4 + 1).toNatClampNeg), .int (sc.2 (x4 + 2).toNatClampNeg)]) (rest := []) rfl (ci := 0) rfl d_Law_law_837 gw_527 gw_528 gw_529 mw_LV_label nh_LV_label pn_LV_label rfl) d_Law_law_837 pl_LV_label (Nat.le_of_ble_eq_true rfl) (Nat.le_of_ble_eq_true rfl) (Nat.le_of_ble_eq_true rfl) (Nat.zero_add _) (Nat.zero_add _) (e_f_LV_label (tl := (HR r (HO o tl)))  d f w m s g (sc.2 (x4 + 1).toNatClampNeg) (sc.2 (x4 + 2).toNatClampNeg)) (Or.inl (len1 (lenHD (lenHF (lenHW (lenHM (lenHS (lenHG (lenHR (lenHO rfl)))))))))) ?_
  refine ev_aload_n d_Law_law_840 rfl rfl ?_
  refine ev_aload_n d_Law_law_841 rfl rfl ?_
  refine ev_iload d_Law_law_842 rfl ?_
  refine ev_iconst (v := 1) d_Law_law_844 rfl ?_
  refine ev_iadd d_Law_law_845 ?_
  refine ev_inB (fun h3 => ?_)
  refine ev_sld (inB_of h3) d_Law_law_846 ?_
  refine ev_aload_n d_Law_law_847 rfl rfl ?_
  refine ev_iload d_Law_law_848 rfl ?_
  refine ev_iconst (v := 2) d_Law_law_850 rfl ?_
  refine ev_iadd d_Law_law_851 ?_
  refine ev_inB (fun h4 => ?_)
  refine ev_sld (inB_of h4) d_Law_law_852 ?_
  refine ev_callBK (k1 := 0) (n1 := 0) (rc := (f_Mod_label r (sc.2 (x4 + 1).toNatClampNeg) (sc.2 (x4 + 2).toNatClampNeg))) (ou := ouI) (Hs := (fun z => (eLV :: (HD d (HF f (HW w (HM m (HS s (HG g (HR z (HO o tl))))))))))) (inv_V (q := 12) (av := [.int (sc.2 (x4 + 1).toNatClampNeg), .int (sc.2 (x4 + 2).toNatClampNeg)]) (rest := [.int ((f_LV_label d f w m s g (sc.2 (x4 + 1).toNatClampNeg) (sc.2 (x4 + 2).toNatClampNeg)).1)]) rfl (ci := 6) rfl d_Law_law_853 gw_1363 gw_1364 gw_1365 mw_Mod_label nh_Mod_label pn_Mod_label rfl) d_Law_law_853 pl_Mod_label (Nat.le_of_ble_eq_true rfl) (Nat.le_of_ble_eq_true rfl) (Nat.le_of_ble_eq_true rfl) (Nat.zero_add _) (Nat.zero_add _) (e_f_Mod_label (tl := (HO o tl)) (d := d) (f := f) (w := w) (m := m) (s := s) (g := g)  r (sc.2 (x4 + 1).toNatClampNeg) (sc.2 (x4 + 2).toNatClampNeg)) (fun _ => (len1 (lenHD (lenHF (lenHW (lenHM (lenHS (lenHG (lenHR (lenHO rfl)))))))))) (fun v z h5 => ⟨_, rfl, ?_⟩)
  exact ev_pick [0, 1, 2, 3, 4] rfl (ev_widen (Nat.le_refl _) (Nat.le_refl _) (by omega) (by omega) (e_B_Law_law_856   r23 hr23 d f w m s g z o x4 ((f_LV_label d f w m s g (sc.2 (x4 + 1).toNatClampNeg) (sc.2 (x4 + 2).toNatClampNeg)).1) v))
def B_Law_law_893 (sc : Nat × (Nat → Int32)) (r23 : DS → FS → WS → MS → SS → GS → RS → OS → Int32 → Option (Int32 × (DS × FS × WS × MS × SS × GS × RS × OS))) (d : DS) (f : FS) (w : WS) (m : MS) (s : SS) (g : GS) (r : RS) (o : OS) (x4 : Int32) (t0 : Int32) (t1 : Int32) : Option (Int32 × (DS × FS × WS × MS × SS × GS × RS × OS)) :=
  if t0 = t1 then (B_Law_law_948 sc r23 d f w m s g r o x4) else (some (0, (d, f, w, m, s, g, r, o)))
theorem e_B_Law_law_893 {sc : Nat × (Nat → Int32)} {tl : List mn_E} {kk : Nat} (r23 : DS → FS → WS → MS → SS → GS → RS → OS → Int32 → Option (Int32 × (DS × FS × WS × MS × SS × GS × RS × OS))) (hr23 : ∀ (d : DS) (f : FS) (w : WS) (m : MS) (s : SS) (g : GS) (r : RS) (o : OS) (x4 : Int32), Ev sc 404 6259 kk (6 * kk) M_Law_law 23 [(0, .ref 1000000), (1, .ref 0), (2, .ref 12), (3, .ref 30), (4, .int x4)] [] (eLV :: (HD d (HF f (HW w (HM m (HS s (HG g (HR r (HO o tl))))))))) (mapR ouI (fun z => (eLV :: (HD z.1 (HF z.2.1 (HW z.2.2.1 (HM z.2.2.2.1 (HS z.2.2.2.2.1 (HG z.2.2.2.2.2.1 (HR z.2.2.2.2.2.2.1 (HO z.2.2.2.2.2.2.2 tl)))))))))) (r23 d f w m s g r o x4))) (d : DS) (f : FS) (w : WS) (m : MS) (s : SS) (g : GS) (r : RS) (o : OS) (x4 : Int32) (t0 : Int32) (t1 : Int32) : Ev sc 404 6259 (kk + 0) (6 * kk + 0) M_Law_law 893 [(0, .ref 1000000), (1, .ref 0), (2, .ref 12), (3, .ref 30), (4, .int x4)] [.int t1, .int t0] (eLV :: (HD d (HF f (HW w (HM m (HS s (HG g (HR r (HO o tl))))))))) (mapR ouI (fun z => (eLV :: (HD z.1 (HF z.2.1 (HW z.2.2.1 (HM z.2.2.2.1 (HS z.2.2.2.2.1 (HG z.2.2.2.2.2.1 (HR z.2.2.2.2.2.2.1 (HO z.2.2.2.2.2.2.2 tl)))))))))) (B_Law_law_893 sc r23 d f w m s g r o x4 t0 t1)) := by
  unfold B_Law_law_893
  refine ev_icmp_eq (tgt := 948) d_Law_law_893 rfl (fun h1 => ?_) (fun h1 => ?_)
  · rw [if_pos h1]
    exact ev_pick [0, 1, 2, 3, 4] rfl (ev_widen (Nat.le_refl _) (Nat.le_refl _) (by omega) (by omega) (e_B_Law_law_948   r23 hr23 d f w m s g r o x4))
  · rw [if_neg h1]
    refine ev_iconst (v := 0) d_Law_law_896 rfl ?_
    exact ev_widen (Nat.zero_le _) (Nat.zero_le _) (Nat.zero_le _) (Nat.zero_le _) (ev_zret (ty := .boolean) rfl rfl d_Law_law_897)
def B_Law_law_861 (sc : Nat × (Nat → Int32)) (r23 : DS → FS → WS → MS → SS → GS → RS → OS → Int32 → Option (Int32 × (DS × FS × WS × MS × SS × GS × RS × OS))) (d : DS) (f : FS) (w : WS) (m : MS) (s : SS) (g : GS) (r : RS) (o : OS) (x4 : Int32) : Option (Int32 × (DS × FS × WS × MS × SS × GS × RS × OS)) :=
  if inB (x4 + 1) sc.1 then (if inB (x4 + 2) sc.1 then (if inB (x4 + 1) sc.1 then (if inB (x4 + 2) sc.1 then (bnd (f_Mod_data r (sc.2 (x4 + 1).toNatClampNeg) (sc.2 (x4 + 2).toNatClampNeg)) (fun q => B_Law_law_893 sc r23 d f w m s g q.2 o x4 ((f_LV_data d f w m s g (sc.2 (x4 + 1).toNatClampNeg) (sc.2 (x4 + 2).toNatClampNeg)).1) q.1)) else none) else none) else none) else none
theorem e_B_Law_law_861 {sc : Nat × (Nat → Int32)} {tl : List mn_E} {kk : Nat} (r23 : DS → FS → WS → MS → SS → GS → RS → OS → Int32 → Option (Int32 × (DS × FS × WS × MS × SS × GS × RS × OS))) (hr23 : ∀ (d : DS) (f : FS) (w : WS) (m : MS) (s : SS) (g : GS) (r : RS) (o : OS) (x4 : Int32), Ev sc 404 6259 kk (6 * kk) M_Law_law 23 [(0, .ref 1000000), (1, .ref 0), (2, .ref 12), (3, .ref 30), (4, .int x4)] [] (eLV :: (HD d (HF f (HW w (HM m (HS s (HG g (HR r (HO o tl))))))))) (mapR ouI (fun z => (eLV :: (HD z.1 (HF z.2.1 (HW z.2.2.1 (HM z.2.2.2.1 (HS z.2.2.2.2.1 (HG z.2.2.2.2.2.1 (HR z.2.2.2.2.2.2.1 (HO z.2.2.2.2.2.2.2 tl)))))))))) (r23 d f w m s g r o x4))) (d : DS) (f : FS) (w : WS) (m : MS) (s : SS) (g : GS) (r : RS) (o : OS) (x4 : Int32) : Ev sc 404 6259 (kk + 0) (6 * kk + 0) M_Law_law 861 [(0, .ref 1000000), (1, .ref 0), (2, .ref 12), (3, .ref 30), (4, .int x4)] [] (eLV :: (HD d (HF f (HW w (HM m (HS s (HG g (HR r (HO o tl))))))))) (mapR ouI (fun z => (eLV :: (HD z.1 (HF z.2.1 (HW z.2.2.1 (HM z.2.2.2.1 (HS z.2.2.2.2.1 (HG z.2.2.2.2.2.1 (HR z.2.2.2.2.2.2.1 (HO z.2.2.2.2.2.2.2 tl)))))))))) (B_Law_law_861 sc r23 d f w m s g r o x4)) := by
  unfold B_Law_law_861
  refine ev_aload_n d_Law_law_861 rfl rfl ?_
  refine ev_aload_n d_Law_law_862 rfl rfl ?_
  refine ev_iload d_Law_law_863 rfl ?_
  refine ev_iconst (v := 1) d_Law_law_865 rfl ?_
  refine ev_iadd d_Law_law_866 ?_
  refine ev_inB (fun h1 => ?_)
  refine ev_sld (inB_of h1) d_Law_law_867 ?_
  refine ev_aload_n d_Law_law_868 rfl rfl ?_
  refine ev_iload d_Law_law_869 rfl ?_
  refine ev_iconst (v := 2) d_Law_law_871 rfl ?_
  refine ev_iadd d_Law_law_872 ?_
  refine ev_inB (fun h2 => ?_)
  refine ev_sld (inB_of h2) d_Law_law_873 ?_
  refine ev_callr (Mc := M_LV_data) (v := some (.int ((f_LV_data d f w m s g (sc.2 (x4 + 1).toNatClampNeg) (sc.2 (x4 + 2).toNatClampNeg)).1))) (h1 := (eLV :: (HD d (HF f (HW w (HM m (HS s (HG g (HR r (HO o tl)))))))))) (k1 := 0) (n1 := 0) (inv_V (q := 0) (av := [.int (sc.2 (x4 + 1).toNatClampNeg), .int (sc.2 (x4 + 2).toNatClampNeg)]) (rest := []) rfl (ci := 0) rfl d_Law_law_874 gw_532 gw_533 gw_534 mw_LV_data nh_LV_data pn_LV_data rfl) d_Law_law_874 pl_LV_data (Nat.le_of_ble_eq_true rfl) (Nat.le_of_ble_eq_true rfl) (Nat.le_of_ble_eq_true rfl) (Nat.zero_add _) (Nat.zero_add _) (e_f_LV_data (tl := (HR r (HO o tl)))  d f w m s g (sc.2 (x4 + 1).toNatClampNeg) (sc.2 (x4 + 2).toNatClampNeg)) (Or.inl (len1 (lenHD (lenHF (lenHW (lenHM (lenHS (lenHG (lenHR (lenHO rfl)))))))))) ?_
  refine ev_aload_n d_Law_law_877 rfl rfl ?_
  refine ev_aload_n d_Law_law_878 rfl rfl ?_
  refine ev_iload d_Law_law_879 rfl ?_
  refine ev_iconst (v := 1) d_Law_law_881 rfl ?_
  refine ev_iadd d_Law_law_882 ?_
  refine ev_inB (fun h3 => ?_)
  refine ev_sld (inB_of h3) d_Law_law_883 ?_
  refine ev_aload_n d_Law_law_884 rfl rfl ?_
  refine ev_iload d_Law_law_885 rfl ?_
  refine ev_iconst (v := 2) d_Law_law_887 rfl ?_
  refine ev_iadd d_Law_law_888 ?_
  refine ev_inB (fun h4 => ?_)
  refine ev_sld (inB_of h4) d_Law_law_889 ?_
  refine ev_callBK (k1 := 0) (n1 := 0) (rc := (f_Mod_data r (sc.2 (x4 + 1).toNatClampNeg) (sc.2 (x4 + 2).toNatClampNeg))) (ou := ouI) (Hs := (fun z => (eLV :: (HD d (HF f (HW w (HM m (HS s (HG g (HR z (HO o tl))))))))))) (inv_V (q := 12) (av := [.int (sc.2 (x4 + 1).toNatClampNeg), .int (sc.2 (x4 + 2).toNatClampNeg)]) (rest := [.int ((f_LV_data d f w m s g (sc.2 (x4 + 1).toNatClampNeg) (sc.2 (x4 + 2).toNatClampNeg)).1)]) rfl (ci := 6) rfl d_Law_law_890 gw_1367 gw_1368 gw_1369 mw_Mod_data nh_Mod_data pn_Mod_data rfl) d_Law_law_890 pl_Mod_data (Nat.le_of_ble_eq_true rfl) (Nat.le_of_ble_eq_true rfl) (Nat.le_of_ble_eq_true rfl) (Nat.zero_add _) (Nat.zero_add _) (e_f_Mod_data (tl := (HO o tl)) (d := d) (f := f) (w := w) (m := m) (s := s) (g := g)  r (sc.2 (x4 + 1).toNatClampNeg) (sc.2 (x4 + 2).toNatClampNeg)) (fun _ => (len1 (lenHD (lenHF (lenHW (lenHM (lenHS (lenHG (lenHR (lenHO rfl)))))))))) (fun v z h5 => ⟨_, rfl, ?_⟩)
  exact ev_pick [0, 1, 2, 3, 4] rfl (ev_widen (Nat.le_refl _) (Nat.le_refl _) (by omega) (by omega) (e_B_Law_law_893   r23 hr23 d f w m s g z o x4 ((f_LV_data d f w m s g (sc.2 (x4 + 1).toNatClampNeg) (sc.2 (x4 + 2).toNatClampNeg)).1) v))
def B_Law_law_918 (sc : Nat × (Nat → Int32)) (r23 : DS → FS → WS → MS → SS → GS → RS → OS → Int32 → Option (Int32 × (DS × FS × WS × MS × SS × GS × RS × OS))) (d : DS) (f : FS) (w : WS) (m : MS) (s : SS) (g : GS) (r : RS) (o : OS) (x4 : Int32) (t0 : Int32) (t1 : Int32) : Option (Int32 × (DS × FS × WS × MS × SS × GS × RS × OS)) :=
  if t0 = t1 then (B_Law_law_948 sc r23 d f w m s g r o x4) else (some (0, (d, f, w, m, s, g, r, o)))
theorem e_B_Law_law_918 {sc : Nat × (Nat → Int32)} {tl : List mn_E} {kk : Nat} (r23 : DS → FS → WS → MS → SS → GS → RS → OS → Int32 → Option (Int32 × (DS × FS × WS × MS × SS × GS × RS × OS))) (hr23 : ∀ (d : DS) (f : FS) (w : WS) (m : MS) (s : SS) (g : GS) (r : RS) (o : OS) (x4 : Int32), Ev sc 404 6259 kk (6 * kk) M_Law_law 23 [(0, .ref 1000000), (1, .ref 0), (2, .ref 12), (3, .ref 30), (4, .int x4)] [] (eLV :: (HD d (HF f (HW w (HM m (HS s (HG g (HR r (HO o tl))))))))) (mapR ouI (fun z => (eLV :: (HD z.1 (HF z.2.1 (HW z.2.2.1 (HM z.2.2.2.1 (HS z.2.2.2.2.1 (HG z.2.2.2.2.2.1 (HR z.2.2.2.2.2.2.1 (HO z.2.2.2.2.2.2.2 tl)))))))))) (r23 d f w m s g r o x4))) (d : DS) (f : FS) (w : WS) (m : MS) (s : SS) (g : GS) (r : RS) (o : OS) (x4 : Int32) (t0 : Int32) (t1 : Int32) : Ev sc 404 6259 (kk + 0) (6 * kk + 0) M_Law_law 918 [(0, .ref 1000000), (1, .ref 0), (2, .ref 12), (3, .ref 30), (4, .int x4)] [.int t1, .int t0] (eLV :: (HD d (HF f (HW w (HM m (HS s (HG g (HR r (HO o tl))))))))) (mapR ouI (fun z => (eLV :: (HD z.1 (HF z.2.1 (HW z.2.2.1 (HM z.2.2.2.1 (HS z.2.2.2.2.1 (HG z.2.2.2.2.2.1 (HR z.2.2.2.2.2.2.1 (HO z.2.2.2.2.2.2.2 tl)))))))))) (B_Law_law_918 sc r23 d f w m s g r o x4 t0 t1)) := by
  unfold B_Law_law_918
  refine ev_icmp_eq (tgt := 948) d_Law_law_918 rfl (fun h1 => ?_) (fun h1 => ?_)
  · rw [if_pos h1]
    exact ev_pick [0, 1, 2, 3, 4] rfl (ev_widen (Nat.le_refl _) (Nat.le_refl _) (by omega) (by omega) (e_B_Law_law_948   r23 hr23 d f w m s g r o x4))
  · rw [if_neg h1]
    refine ev_iconst (v := 0) d_Law_law_921 rfl ?_
    exact ev_widen (Nat.zero_le _) (Nat.zero_le _) (Nat.zero_le _) (Nat.zero_le _) (ev_zret (ty := .boolean) rfl rfl d_Law_law_922)
def B_Law_law_898 (sc : Nat × (Nat → Int32)) (r23 : DS → FS → WS → MS → SS → GS → RS → OS → Int32 → Option (Int32 × (DS × FS × WS × MS × SS × GS × RS × OS))) (d : DS) (f : FS) (w : WS) (m : MS) (s : SS) (g : GS) (r : RS) (o : OS) (x4 : Int32) : Option (Int32 × (DS × FS × WS × MS × SS × GS × RS × OS)) :=
  if inB (x4 + 1) sc.1 then (if inB (x4 + 1) sc.1 then (bnd (f_Mod_state r (sc.2 (x4 + 1).toNatClampNeg)) (fun q => B_Law_law_918 sc r23 d f w m s g q.2 o x4 ((f_LV_state d f w m s g (sc.2 (x4 + 1).toNatClampNeg)).1) q.1)) else none) else none
theorem e_B_Law_law_898 {sc : Nat × (Nat → Int32)} {tl : List mn_E} {kk : Nat} (r23 : DS → FS → WS → MS → SS → GS → RS → OS → Int32 → Option (Int32 × (DS × FS × WS × MS × SS × GS × RS × OS))) (hr23 : ∀ (d : DS) (f : FS) (w : WS) (m : MS) (s : SS) (g : GS) (r : RS) (o : OS) (x4 : Int32), Ev sc 404 6259 kk (6 * kk) M_Law_law 23 [(0, .ref 1000000), (1, .ref 0), (2, .ref 12), (3, .ref 30), (4, .int x4)] [] (eLV :: (HD d (HF f (HW w (HM m (HS s (HG g (HR r (HO o tl))))))))) (mapR ouI (fun z => (eLV :: (HD z.1 (HF z.2.1 (HW z.2.2.1 (HM z.2.2.2.1 (HS z.2.2.2.2.1 (HG z.2.2.2.2.2.1 (HR z.2.2.2.2.2.2.1 (HO z.2.2.2.2.2.2.2 tl)))))))))) (r23 d f w m s g r o x4))) (d : DS) (f : FS) (w : WS) (m : MS) (s : SS) (g : GS) (r : RS) (o : OS) (x4 : Int32) : Ev sc 404 6259 (kk + 0) (6 * kk + 0) M_Law_law 898 [(0, .ref 1000000), (1, .ref 0), (2, .ref 12), (3, .ref 30), (4, .int x4)] [] (eLV :: (HD d (HF f (HW w (HM m (HS s (HG g (HR r (HO o tl))))))))) (mapR ouI (fun z => (eLV :: (HD z.1 (HF z.2.1 (HW z.2.2.1 (HM z.2.2.2.1 (HS z.2.2.2.2.1 (HG z.2.2.2.2.2.1 (HR z.2.2.2.2.2.2.1 (HO z.2.2.2.2.2.2.2 tl)))))))))) (B_Law_law_898 sc r23 d f w m s g r o x4)) := by
  unfold B_Law_law_898
  refine ev_aload_n d_Law_law_898 rfl rfl ?_
  refine ev_aload_n d_Law_law_899 rfl rfl ?_
  refine ev_iload d_Law_law_900 rfl ?_
  refine ev_iconst (v := 1) d_Law_law_902 rfl ?_
  refine ev_iadd d_Law_law_903 ?_
  refine ev_inB (fun h1 => ?_)
  refine ev_sld (inB_of h1) d_Law_law_904 ?_
  refine ev_callr (Mc := M_LV_state) (v := some (.int ((f_LV_state d f w m s g (sc.2 (x4 + 1).toNatClampNeg)).1))) (h1 := (eLV :: (HD d (HF f (HW w (HM m (HS s (HG g (HR r (HO o tl)))))))))) (k1 := 0) (n1 := 0) (inv_V (q := 0) (av := [.int (sc.2 (x4 + 1).toNatClampNeg)]) (rest := []) rfl (ci := 0) rfl d_Law_law_905 gw_537 gw_538 gw_539 mw_LV_state nh_LV_state pn_LV_state rfl) d_Law_law_905 pl_LV_state (Nat.le_of_ble_eq_true rfl) (Nat.le_of_ble_eq_true rfl) (Nat.le_of_ble_eq_true rfl) (Nat.zero_add _) (Nat.zero_add _) (e_f_LV_state (tl := (HR r (HO o tl)))  d f w m s g (sc.2 (x4 + 1).toNatClampNeg)) (Or.inl (len1 (lenHD (lenHF (lenHW (lenHM (lenHS (lenHG (lenHR (lenHO rfl)))))))))) ?_
  refine ev_aload_n d_Law_law_908 rfl rfl ?_
  refine ev_aload_n d_Law_law_909 rfl rfl ?_
  refine ev_iload d_Law_law_910 rfl ?_
  refine ev_iconst (v := 1) d_Law_law_912 rfl ?_
  refine ev_iadd d_Law_law_913 ?_
  refine ev_inB (fun h2 => ?_)
  refine ev_sld (inB_of h2) d_Law_law_914 ?_
  refine ev_callBK (k1 := 0) (n1 := 0) (rc := (f_Mod_state r (sc.2 (x4 + 1).toNatClampNeg))) (ou := ouI) (Hs := (fun z => (eLV :: (HD d (HF f (HW w (HM m (HS s (HG g (HR z (HO o tl))))))))))) (inv_V (q := 12) (av := [.int (sc.2 (x4 + 1).toNatClampNeg)]) (rest := [.int ((f_LV_state d f w m s g (sc.2 (x4 + 1).toNatClampNeg)).1)]) rfl (ci := 6) rfl d_Law_law_915 gw_1371 gw_1372 gw_1373 mw_Mod_state nh_Mod_state pn_Mod_state rfl) d_Law_law_915 pl_Mod_state (Nat.le_of_ble_eq_true rfl) (Nat.le_of_ble_eq_true rfl) (Nat.le_of_ble_eq_true rfl) (Nat.zero_add _) (Nat.zero_add _) (e_f_Mod_state (tl := (HO o tl)) (d := d) (f := f) (w := w) (m := m) (s := s) (g := g)  r (sc.2 (x4 + 1).toNatClampNeg)) (fun _ => (len1 (lenHD (lenHF (lenHW (lenHM (lenHS (lenHG (lenHR (lenHO rfl)))))))))) (fun v z h3 => ⟨_, rfl, ?_⟩)
  exact ev_pick [0, 1, 2, 3, 4] rfl (ev_widen (Nat.le_refl _) (Nat.le_refl _) (by omega) (by omega) (e_B_Law_law_918   r23 hr23 d f w m s g z o x4 ((f_LV_state d f w m s g (sc.2 (x4 + 1).toNatClampNeg)).1) v))
def B_Law_law_943 (sc : Nat × (Nat → Int32)) (r23 : DS → FS → WS → MS → SS → GS → RS → OS → Int32 → Option (Int32 × (DS × FS × WS × MS × SS × GS × RS × OS))) (d : DS) (f : FS) (w : WS) (m : MS) (s : SS) (g : GS) (r : RS) (o : OS) (x4 : Int32) (t0 : Int32) (t1 : Int32) : Option (Int32 × (DS × FS × WS × MS × SS × GS × RS × OS)) :=
  if t0 = t1 then (B_Law_law_948 sc r23 d f w m s g r o x4) else (some (0, (d, f, w, m, s, g, r, o)))
theorem e_B_Law_law_943 {sc : Nat × (Nat → Int32)} {tl : List mn_E} {kk : Nat} (r23 : DS → FS → WS → MS → SS → GS → RS → OS → Int32 → Option (Int32 × (DS × FS × WS × MS × SS × GS × RS × OS))) (hr23 : ∀ (d : DS) (f : FS) (w : WS) (m : MS) (s : SS) (g : GS) (r : RS) (o : OS) (x4 : Int32), Ev sc 404 6259 kk (6 * kk) M_Law_law 23 [(0, .ref 1000000), (1, .ref 0), (2, .ref 12), (3, .ref 30), (4, .int x4)] [] (eLV :: (HD d (HF f (HW w (HM m (HS s (HG g (HR r (HO o tl))))))))) (mapR ouI (fun z => (eLV :: (HD z.1 (HF z.2.1 (HW z.2.2.1 (HM z.2.2.2.1 (HS z.2.2.2.2.1 (HG z.2.2.2.2.2.1 (HR z.2.2.2.2.2.2.1 (HO z.2.2.2.2.2.2.2 tl)))))))))) (r23 d f w m s g r o x4))) (d : DS) (f : FS) (w : WS) (m : MS) (s : SS) (g : GS) (r : RS) (o : OS) (x4 : Int32) (t0 : Int32) (t1 : Int32) : Ev sc 404 6259 (kk + 0) (6 * kk + 0) M_Law_law 943 [(0, .ref 1000000), (1, .ref 0), (2, .ref 12), (3, .ref 30), (4, .int x4)] [.int t1, .int t0] (eLV :: (HD d (HF f (HW w (HM m (HS s (HG g (HR r (HO o tl))))))))) (mapR ouI (fun z => (eLV :: (HD z.1 (HF z.2.1 (HW z.2.2.1 (HM z.2.2.2.1 (HS z.2.2.2.2.1 (HG z.2.2.2.2.2.1 (HR z.2.2.2.2.2.2.1 (HO z.2.2.2.2.2.2.2 tl)))))))))) (B_Law_law_943 sc r23 d f w m s g r o x4 t0 t1)) := by
  unfold B_Law_law_943
  refine ev_icmp_eq (tgt := 948) d_Law_law_943 rfl (fun h1 => ?_) (fun h1 => ?_)
  · rw [if_pos h1]
    exact ev_pick [0, 1, 2, 3, 4] rfl (ev_widen (Nat.le_refl _) (Nat.le_refl _) (by omega) (by omega) (e_B_Law_law_948   r23 hr23 d f w m s g r o x4))
  · rw [if_neg h1]
    refine ev_iconst (v := 0) d_Law_law_946 rfl ?_
    exact ev_widen (Nat.zero_le _) (Nat.zero_le _) (Nat.zero_le _) (Nat.zero_le _) (ev_zret (ty := .boolean) rfl rfl d_Law_law_947)
def B_Law_law_933 (sc : Nat × (Nat → Int32)) (r23 : DS → FS → WS → MS → SS → GS → RS → OS → Int32 → Option (Int32 × (DS × FS × WS × MS × SS × GS × RS × OS))) (d : DS) (f : FS) (w : WS) (m : MS) (s : SS) (g : GS) (r : RS) (o : OS) (x4 : Int32) (t0 : Int32) : Option (Int32 × (DS × FS × WS × MS × SS × GS × RS × OS)) :=
  if inB (x4 + 1) sc.1 then (bnd (f_Mod_report r (sc.2 (x4 + 1).toNatClampNeg)) (fun q => B_Law_law_943 sc r23 d f w m s g q.2 o x4 t0 q.1)) else none
theorem e_B_Law_law_933 {sc : Nat × (Nat → Int32)} {tl : List mn_E} {kk : Nat} (r23 : DS → FS → WS → MS → SS → GS → RS → OS → Int32 → Option (Int32 × (DS × FS × WS × MS × SS × GS × RS × OS))) (hr23 : ∀ (d : DS) (f : FS) (w : WS) (m : MS) (s : SS) (g : GS) (r : RS) (o : OS) (x4 : Int32), Ev sc 404 6259 kk (6 * kk) M_Law_law 23 [(0, .ref 1000000), (1, .ref 0), (2, .ref 12), (3, .ref 30), (4, .int x4)] [] (eLV :: (HD d (HF f (HW w (HM m (HS s (HG g (HR r (HO o tl))))))))) (mapR ouI (fun z => (eLV :: (HD z.1 (HF z.2.1 (HW z.2.2.1 (HM z.2.2.2.1 (HS z.2.2.2.2.1 (HG z.2.2.2.2.2.1 (HR z.2.2.2.2.2.2.1 (HO z.2.2.2.2.2.2.2 tl)))))))))) (r23 d f w m s g r o x4))) (d : DS) (f : FS) (w : WS) (m : MS) (s : SS) (g : GS) (r : RS) (o : OS) (x4 : Int32) (t0 : Int32) : Ev sc 404 6259 (kk + 0) (6 * kk + 0) M_Law_law 933 [(0, .ref 1000000), (1, .ref 0), (2, .ref 12), (3, .ref 30), (4, .int x4)] [.int t0] (eLV :: (HD d (HF f (HW w (HM m (HS s (HG g (HR r (HO o tl))))))))) (mapR ouI (fun z => (eLV :: (HD z.1 (HF z.2.1 (HW z.2.2.1 (HM z.2.2.2.1 (HS z.2.2.2.2.1 (HG z.2.2.2.2.2.1 (HR z.2.2.2.2.2.2.1 (HO z.2.2.2.2.2.2.2 tl)))))))))) (B_Law_law_933 sc r23 d f w m s g r o x4 t0)) := by
  unfold B_Law_law_933
  refine ev_aload_n d_Law_law_933 rfl rfl ?_
  refine ev_aload_n d_Law_law_934 rfl rfl ?_
  refine ev_iload d_Law_law_935 rfl ?_
  refine ev_iconst (v := 1) d_Law_law_937 rfl ?_
  refine ev_iadd d_Law_law_938 ?_
  refine ev_inB (fun h1 => ?_)
  refine ev_sld (inB_of h1) d_Law_law_939 ?_
  refine ev_callBK (k1 := 0) (n1 := 0) (rc := (f_Mod_report r (sc.2 (x4 + 1).toNatClampNeg))) (ou := ouI) (Hs := (fun z => (eLV :: (HD d (HF f (HW w (HM m (HS s (HG g (HR z (HO o tl))))))))))) (inv_V (q := 12) (av := [.int (sc.2 (x4 + 1).toNatClampNeg)]) (rest := [.int t0]) rfl (ci := 6) rfl d_Law_law_940 gw_1375 gw_1376 gw_1377 mw_Mod_report nh_Mod_report pn_Mod_report rfl) d_Law_law_940 pl_Mod_report (Nat.le_of_ble_eq_true rfl) (Nat.le_of_ble_eq_true rfl) (Nat.le_of_ble_eq_true rfl) (Nat.zero_add _) (Nat.zero_add _) (e_f_Mod_report (tl := (HO o tl)) (d := d) (f := f) (w := w) (m := m) (s := s) (g := g)  r (sc.2 (x4 + 1).toNatClampNeg)) (fun _ => (len1 (lenHD (lenHF (lenHW (lenHM (lenHS (lenHG (lenHR (lenHO rfl)))))))))) (fun v z h2 => ⟨_, rfl, ?_⟩)
  exact ev_pick [0, 1, 2, 3, 4] rfl (ev_widen (Nat.le_refl _) (Nat.le_refl _) (by omega) (by omega) (e_B_Law_law_943   r23 hr23 d f w m s g z o x4 t0 v))
def B_Law_law_923 (sc : Nat × (Nat → Int32)) (r23 : DS → FS → WS → MS → SS → GS → RS → OS → Int32 → Option (Int32 × (DS × FS × WS × MS × SS × GS × RS × OS))) (d : DS) (f : FS) (w : WS) (m : MS) (s : SS) (g : GS) (r : RS) (o : OS) (x4 : Int32) : Option (Int32 × (DS × FS × WS × MS × SS × GS × RS × OS)) :=
  if inB (x4 + 1) sc.1 then (bnd (f_LV_report d f w m s g (sc.2 (x4 + 1).toNatClampNeg)) (fun q => B_Law_law_933 sc r23 d f w m s g r o x4 q.1)) else none
theorem e_B_Law_law_923 {sc : Nat × (Nat → Int32)} {tl : List mn_E} {kk : Nat} (r23 : DS → FS → WS → MS → SS → GS → RS → OS → Int32 → Option (Int32 × (DS × FS × WS × MS × SS × GS × RS × OS))) (hr23 : ∀ (d : DS) (f : FS) (w : WS) (m : MS) (s : SS) (g : GS) (r : RS) (o : OS) (x4 : Int32), Ev sc 404 6259 kk (6 * kk) M_Law_law 23 [(0, .ref 1000000), (1, .ref 0), (2, .ref 12), (3, .ref 30), (4, .int x4)] [] (eLV :: (HD d (HF f (HW w (HM m (HS s (HG g (HR r (HO o tl))))))))) (mapR ouI (fun z => (eLV :: (HD z.1 (HF z.2.1 (HW z.2.2.1 (HM z.2.2.2.1 (HS z.2.2.2.2.1 (HG z.2.2.2.2.2.1 (HR z.2.2.2.2.2.2.1 (HO z.2.2.2.2.2.2.2 tl)))))))))) (r23 d f w m s g r o x4))) (d : DS) (f : FS) (w : WS) (m : MS) (s : SS) (g : GS) (r : RS) (o : OS) (x4 : Int32) : Ev sc 404 6259 (kk + 0) (6 * kk + 0) M_Law_law 923 [(0, .ref 1000000), (1, .ref 0), (2, .ref 12), (3, .ref 30), (4, .int x4)] [] (eLV :: (HD d (HF f (HW w (HM m (HS s (HG g (HR r (HO o tl))))))))) (mapR ouI (fun z => (eLV :: (HD z.1 (HF z.2.1 (HW z.2.2.1 (HM z.2.2.2.1 (HS z.2.2.2.2.1 (HG z.2.2.2.2.2.1 (HR z.2.2.2.2.2.2.1 (HO z.2.2.2.2.2.2.2 tl)))))))))) (B_Law_law_923 sc r23 d f w m s g r o x4)) := by
  unfold B_Law_law_923
  refine ev_aload_n d_Law_law_923 rfl rfl ?_
  refine ev_aload_n d_Law_law_924 rfl rfl ?_
  refine ev_iload d_Law_law_925 rfl ?_
  refine ev_iconst (v := 1) d_Law_law_927 rfl ?_
  refine ev_iadd d_Law_law_928 ?_
  refine ev_inB (fun h1 => ?_)
  refine ev_sld (inB_of h1) d_Law_law_929 ?_
  refine ev_callBK (k1 := 0) (n1 := 0) (rc := (f_LV_report d f w m s g (sc.2 (x4 + 1).toNatClampNeg))) (ou := ouI) (Hs := (fun z => (eLV :: (HD d (HF f (HW w (HM m (HS s (HG g (HR r (HO o tl))))))))))) (inv_V (q := 0) (av := [.int (sc.2 (x4 + 1).toNatClampNeg)]) (rest := []) rfl (ci := 0) rfl d_Law_law_930 gw_561 gw_562 gw_563 mw_LV_report nh_LV_report pn_LV_report rfl) d_Law_law_930 pl_LV_report (Nat.le_of_ble_eq_true rfl) (Nat.le_of_ble_eq_true rfl) (Nat.le_of_ble_eq_true rfl) (Nat.zero_add _) (Nat.zero_add _) (e_f_LV_report (tl := (HR r (HO o tl)))  d f w m s g (sc.2 (x4 + 1).toNatClampNeg)) (fun _ => (len1 (lenHD (lenHF (lenHW (lenHM (lenHS (lenHG (lenHR (lenHO rfl)))))))))) (fun v z h2 => ⟨_, rfl, ?_⟩)
  exact ev_pick [0, 1, 2, 3, 4] rfl (ev_widen (Nat.le_refl _) (Nat.le_refl _) (by omega) (by omega) (e_B_Law_law_933   r23 hr23 d f w m s g r o x4 v))
def L_Law_law_23 (sc : Nat × (Nat → Int32))  : Nat → DS → FS → WS → MS → SS → GS → RS → OS → Int32 → Option (Int32 × (DS × FS × WS × MS × SS × GS × RS × OS))
  | 0, _, _, _, _, _, _, _, _, _ => none
  | n + 1, d, f, w, m, s, g, r, o, x4 =>
  if ((Int32.ofNat sc.1) - 4) < x4 then (some (1, (d, f, w, m, s, g, r, o))) else (if inB x4 sc.1 then (if ((sc.2 x4.toNatClampNeg) &&& 31) = 0 then (B_Law_law_120 sc (L_Law_law_23 sc n) d f w m s g r o x4) else (if ((sc.2 x4.toNatClampNeg) &&& 31) = 1 then (B_Law_law_216 sc (L_Law_law_23 sc n) d f w m s g r o x4) else (if ((sc.2 x4.toNatClampNeg) &&& 31) = 2 then (B_Law_law_284 sc (L_Law_law_23 sc n) d f w m s g r o x4) else (if ((sc.2 x4.toNatClampNeg) &&& 31) = 3 then (B_Law_law_352 sc (L_Law_law_23 sc n) d f w m s g r o x4) else (if ((sc.2 x4.toNatClampNeg) &&& 31) = 4 then (B_Law_law_412 sc (L_Law_law_23 sc n) d f w m s g r o x4) else (if ((sc.2 x4.toNatClampNeg) &&& 31) = 5 then (B_Law_law_460 sc (L_Law_law_23 sc n) d f w m s g r o x4) else (if ((sc.2 x4.toNatClampNeg) &&& 31) = 6 then (B_Law_law_528 sc (L_Law_law_23 sc n) d f w m s g r o x4) else (if ((sc.2 x4.toNatClampNeg) &&& 31) = 7 then (B_Law_law_584 sc (L_Law_law_23 sc n) d f w m s g r o x4) else (if ((sc.2 x4.toNatClampNeg) &&& 31) = 8 then (B_Law_law_664 sc (L_Law_law_23 sc n) d f w m s g r o x4) else (if ((sc.2 x4.toNatClampNeg) &&& 31) = 9 then (B_Law_law_677 sc (L_Law_law_23 sc n) d f w m s g r o x4) else (if ((sc.2 x4.toNatClampNeg) &&& 31) = 10 then (B_Law_law_713 sc (L_Law_law_23 sc n) d f w m s g r o x4) else (if ((sc.2 x4.toNatClampNeg) &&& 31) = 11 then (B_Law_law_762 sc (L_Law_law_23 sc n) d f w m s g r o x4) else (if ((sc.2 x4.toNatClampNeg) &&& 31) = 12 then (B_Law_law_787 sc (L_Law_law_23 sc n) d f w m s g r o x4) else (if ((sc.2 x4.toNatClampNeg) &&& 31) = 13 then (B_Law_law_824 sc (L_Law_law_23 sc n) d f w m s g r o x4) else (if ((sc.2 x4.toNatClampNeg) &&& 31) = 14 then (B_Law_law_861 sc (L_Law_law_23 sc n) d f w m s g r o x4) else (if ((sc.2 x4.toNatClampNeg) &&& 31) = 15 then (B_Law_law_898 sc (L_Law_law_23 sc n) d f w m s g r o x4) else (if ((sc.2 x4.toNatClampNeg) &&& 31) = 16 then (B_Law_law_923 sc (L_Law_law_23 sc n) d f w m s g r o x4) else (B_Law_law_948 sc (L_Law_law_23 sc n) d f w m s g r o x4)))))))))))))))))) else none)
theorem e_L_Law_law_23 {sc : Nat × (Nat → Int32)} {tl : List mn_E}    : ∀ (n : Nat) (d : DS) (f : FS) (w : WS) (m : MS) (s : SS) (g : GS) (r : RS) (o : OS) (x4 : Int32), Ev sc 404 6259 n (6 * n) M_Law_law 23 [(0, .ref 1000000), (1, .ref 0), (2, .ref 12), (3, .ref 30), (4, .int x4)] [] (eLV :: (HD d (HF f (HW w (HM m (HS s (HG g (HR r (HO o tl))))))))) (mapR ouI (fun z => (eLV :: (HD z.1 (HF z.2.1 (HW z.2.2.1 (HM z.2.2.2.1 (HS z.2.2.2.2.1 (HG z.2.2.2.2.2.1 (HR z.2.2.2.2.2.2.1 (HO z.2.2.2.2.2.2.2 tl)))))))))) (L_Law_law_23 sc  n d f w m s g r o x4)) := by
  intro n
  induction n with
  | zero => intro d f w m s g r o x4; exact ev_none
  | succ n ih =>
    intro d f w m s g r o x4
    rw [L_Law_law_23]
    refine ev_iload d_Law_law_23 rfl ?_
    refine ev_aload_n d_Law_law_25 rfl rfl ?_
    refine ev_slen d_Law_law_26 ?_
    refine ev_iconst (v := 4) d_Law_law_27 rfl ?_
    refine ev_isub d_Law_law_28 ?_
    refine ev_icmp_gt (tgt := 954) d_Law_law_29 rfl (fun h1 => ?_) (fun h1 => ?_)
    · rw [if_pos h1]
      refine ev_iconst (v := 1) d_Law_law_954 rfl ?_
      exact ev_widen (Nat.zero_le _) (Nat.zero_le _) (Nat.zero_le _) (Nat.zero_le _) (ev_zret (ty := .boolean) rfl rfl d_Law_law_955)
    · rw [if_neg h1]
      refine ev_aload_n d_Law_law_32 rfl rfl ?_
      refine ev_iload d_Law_law_33 rfl ?_
      refine ev_inB (fun h2 => ?_)
      refine ev_sld (inB_of h2) d_Law_law_35 ?_
      refine ev_bipush (v := 31) d_Law_law_36 rfl ?_
      refine ev_iand d_Law_law_38 ?_
      by_cases h3 : ((sc.2 x4.toNatClampNeg) &&& 31) = 0
      · rw [if_pos h3]
        refine ev_tableIn (tgt := 120) d_Law_law_39 (by rw [h3]; decide) (by rw [h3]; decide) (by rw [h3]; rfl) rfl ?_
        exact ev_pick [0, 1, 2, 3, 4] rfl (ev_widen (Nat.le_refl _) (Nat.le_refl _) (by omega) (by omega) (e_B_Law_law_120   (L_Law_law_23 sc n) ih d f w m s g r o x4))
      · rw [if_neg h3]
        by_cases h4 : ((sc.2 x4.toNatClampNeg) &&& 31) = 1
        · rw [if_pos h4]
          refine ev_tableIn (tgt := 216) d_Law_law_39 (by rw [h4]; decide) (by rw [h4]; decide) (by rw [h4]; rfl) rfl ?_
          exact ev_pick [0, 1, 2, 3, 4] rfl (ev_widen (Nat.le_refl _) (Nat.le_refl _) (by omega) (by omega) (e_B_Law_law_216   (L_Law_law_23 sc n) ih d f w m s g r o x4))
        · rw [if_neg h4]
          by_cases h5 : ((sc.2 x4.toNatClampNeg) &&& 31) = 2
          · rw [if_pos h5]
            refine ev_tableIn (tgt := 284) d_Law_law_39 (by rw [h5]; decide) (by rw [h5]; decide) (by rw [h5]; rfl) rfl ?_
            exact ev_pick [0, 1, 2, 3, 4] rfl (ev_widen (Nat.le_refl _) (Nat.le_refl _) (by omega) (by omega) (e_B_Law_law_284   (L_Law_law_23 sc n) ih d f w m s g r o x4))
          · rw [if_neg h5]
            by_cases h6 : ((sc.2 x4.toNatClampNeg) &&& 31) = 3
            · rw [if_pos h6]
              refine ev_tableIn (tgt := 352) d_Law_law_39 (by rw [h6]; decide) (by rw [h6]; decide) (by rw [h6]; rfl) rfl ?_
              exact ev_pick [0, 1, 2, 3, 4] rfl (ev_widen (Nat.le_refl _) (Nat.le_refl _) (by omega) (by omega) (e_B_Law_law_352   (L_Law_law_23 sc n) ih d f w m s g r o x4))
            · rw [if_neg h6]
              by_cases h7 : ((sc.2 x4.toNatClampNeg) &&& 31) = 4
              · rw [if_pos h7]
                refine ev_tableIn (tgt := 412) d_Law_law_39 (by rw [h7]; decide) (by rw [h7]; decide) (by rw [h7]; rfl) rfl ?_
                exact ev_pick [0, 1, 2, 3, 4] rfl (ev_widen (Nat.le_refl _) (Nat.le_refl _) (by omega) (by omega) (e_B_Law_law_412   (L_Law_law_23 sc n) ih d f w m s g r o x4))
              · rw [if_neg h7]
                by_cases h8 : ((sc.2 x4.toNatClampNeg) &&& 31) = 5
                · rw [if_pos h8]
                  refine ev_tableIn (tgt := 460) d_Law_law_39 (by rw [h8]; decide) (by rw [h8]; decide) (by rw [h8]; rfl) rfl ?_
                  exact ev_pick [0, 1, 2, 3, 4] rfl (ev_widen (Nat.le_refl _) (Nat.le_refl _) (by omega) (by omega) (e_B_Law_law_460   (L_Law_law_23 sc n) ih d f w m s g r o x4))
                · rw [if_neg h8]
                  by_cases h9 : ((sc.2 x4.toNatClampNeg) &&& 31) = 6
                  · rw [if_pos h9]
                    refine ev_tableIn (tgt := 528) d_Law_law_39 (by rw [h9]; decide) (by rw [h9]; decide) (by rw [h9]; rfl) rfl ?_
                    exact ev_pick [0, 1, 2, 3, 4] rfl (ev_widen (Nat.le_refl _) (Nat.le_refl _) (by omega) (by omega) (e_B_Law_law_528   (L_Law_law_23 sc n) ih d f w m s g r o x4))
                  · rw [if_neg h9]
                    by_cases h10 : ((sc.2 x4.toNatClampNeg) &&& 31) = 7
                    · rw [if_pos h10]
                      refine ev_tableIn (tgt := 584) d_Law_law_39 (by rw [h10]; decide) (by rw [h10]; decide) (by rw [h10]; rfl) rfl ?_
                      exact ev_pick [0, 1, 2, 3, 4] rfl (ev_widen (Nat.le_refl _) (Nat.le_refl _) (by omega) (by omega) (e_B_Law_law_584   (L_Law_law_23 sc n) ih d f w m s g r o x4))
                    · rw [if_neg h10]
                      by_cases h11 : ((sc.2 x4.toNatClampNeg) &&& 31) = 8
                      · rw [if_pos h11]
                        refine ev_tableIn (tgt := 664) d_Law_law_39 (by rw [h11]; decide) (by rw [h11]; decide) (by rw [h11]; rfl) rfl ?_
                        exact ev_pick [0, 1, 2, 3, 4] rfl (ev_widen (Nat.le_refl _) (Nat.le_refl _) (by omega) (by omega) (e_B_Law_law_664   (L_Law_law_23 sc n) ih d f w m s g r o x4))
                      · rw [if_neg h11]
                        by_cases h12 : ((sc.2 x4.toNatClampNeg) &&& 31) = 9
                        · rw [if_pos h12]
                          refine ev_tableIn (tgt := 677) d_Law_law_39 (by rw [h12]; decide) (by rw [h12]; decide) (by rw [h12]; rfl) rfl ?_
                          exact ev_pick [0, 1, 2, 3, 4] rfl (ev_widen (Nat.le_refl _) (Nat.le_refl _) (by omega) (by omega) (e_B_Law_law_677   (L_Law_law_23 sc n) ih d f w m s g r o x4))
                        · rw [if_neg h12]
                          by_cases h13 : ((sc.2 x4.toNatClampNeg) &&& 31) = 10
                          · rw [if_pos h13]
                            refine ev_tableIn (tgt := 713) d_Law_law_39 (by rw [h13]; decide) (by rw [h13]; decide) (by rw [h13]; rfl) rfl ?_
                            exact ev_pick [0, 1, 2, 3, 4] rfl (ev_widen (Nat.le_refl _) (Nat.le_refl _) (by omega) (by omega) (e_B_Law_law_713   (L_Law_law_23 sc n) ih d f w m s g r o x4))
                          · rw [if_neg h13]
                            by_cases h14 : ((sc.2 x4.toNatClampNeg) &&& 31) = 11
                            · rw [if_pos h14]
                              refine ev_tableIn (tgt := 762) d_Law_law_39 (by rw [h14]; decide) (by rw [h14]; decide) (by rw [h14]; rfl) rfl ?_
                              exact ev_pick [0, 1, 2, 3, 4] rfl (ev_widen (Nat.le_refl _) (Nat.le_refl _) (by omega) (by omega) (e_B_Law_law_762   (L_Law_law_23 sc n) ih d f w m s g r o x4))
                            · rw [if_neg h14]
                              by_cases h15 : ((sc.2 x4.toNatClampNeg) &&& 31) = 12
                              · rw [if_pos h15]
                                refine ev_tableIn (tgt := 787) d_Law_law_39 (by rw [h15]; decide) (by rw [h15]; decide) (by rw [h15]; rfl) rfl ?_
                                exact ev_pick [0, 1, 2, 3, 4] rfl (ev_widen (Nat.le_refl _) (Nat.le_refl _) (by omega) (by omega) (e_B_Law_law_787   (L_Law_law_23 sc n) ih d f w m s g r o x4))
                              · rw [if_neg h15]
                                by_cases h16 : ((sc.2 x4.toNatClampNeg) &&& 31) = 13
                                · rw [if_pos h16]
                                  refine ev_tableIn (tgt := 824) d_Law_law_39 (by rw [h16]; decide) (by rw [h16]; decide) (by rw [h16]; rfl) rfl ?_
                                  exact ev_pick [0, 1, 2, 3, 4] rfl (ev_widen (Nat.le_refl _) (Nat.le_refl _) (by omega) (by omega) (e_B_Law_law_824   (L_Law_law_23 sc n) ih d f w m s g r o x4))
                                · rw [if_neg h16]
                                  by_cases h17 : ((sc.2 x4.toNatClampNeg) &&& 31) = 14
                                  · rw [if_pos h17]
                                    refine ev_tableIn (tgt := 861) d_Law_law_39 (by rw [h17]; decide) (by rw [h17]; decide) (by rw [h17]; rfl) rfl ?_
                                    exact ev_pick [0, 1, 2, 3, 4] rfl (ev_widen (Nat.le_refl _) (Nat.le_refl _) (by omega) (by omega) (e_B_Law_law_861   (L_Law_law_23 sc n) ih d f w m s g r o x4))
                                  · rw [if_neg h17]
                                    by_cases h18 : ((sc.2 x4.toNatClampNeg) &&& 31) = 15
                                    · rw [if_pos h18]
                                      refine ev_tableIn (tgt := 898) d_Law_law_39 (by rw [h18]; decide) (by rw [h18]; decide) (by rw [h18]; rfl) rfl ?_
                                      exact ev_pick [0, 1, 2, 3, 4] rfl (ev_widen (Nat.le_refl _) (Nat.le_refl _) (by omega) (by omega) (e_B_Law_law_898   (L_Law_law_23 sc n) ih d f w m s g r o x4))
                                    · rw [if_neg h18]
                                      by_cases h19 : ((sc.2 x4.toNatClampNeg) &&& 31) = 16
                                      · rw [if_pos h19]
                                        refine ev_tableIn (tgt := 923) d_Law_law_39 (by rw [h19]; decide) (by rw [h19]; decide) (by rw [h19]; rfl) rfl ?_
                                        exact ev_pick [0, 1, 2, 3, 4] rfl (ev_widen (Nat.le_refl _) (Nat.le_refl _) (by omega) (by omega) (e_B_Law_law_923   (L_Law_law_23 sc n) ih d f w m s g r o x4))
                                      · rw [if_neg h19]
                                        refine ev_tableOut (tgt := 948) d_Law_law_39 (tb_out17 h3 h4 h5 h6 h7 h8 h9 h10 h11 h12 h13 h14 h15 h16 h17 h18 h19) rfl ?_
                                        exact ev_pick [0, 1, 2, 3, 4] rfl (ev_widen (Nat.le_refl _) (Nat.le_refl _) (by omega) (by omega) (e_B_Law_law_948   (L_Law_law_23 sc n) ih d f w m s g r o x4))
