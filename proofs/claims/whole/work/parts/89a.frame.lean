/-! the reference's state by its parts -/
def mkR (a1 a2 a3 a4 a5 a6 a7 a8 a9 a10 a11 a12 a13 a14 a15 a16 a17 : Nat → Int32) (i : RI) : RS := ((a1, a2, a3, a4, a5, a6, a7, a8, a9, a10, a11, a12, a13, a14, a15, a16, a17), i)
theorem G_Ser (a1 a2 a3 a4 a5 a6 a7 a8 a9 a10 a11 a12 a13 a14 a15 a16 a17 : Nat → Int32) (i : RI) : rSer (mkR a1 a2 a3 a4 a5 a6 a7 a8 a9 a10 a11 a12 a13 a14 a15 a16 a17 i) = a1 := rfl
theorem G_Pag (a1 a2 a3 a4 a5 a6 a7 a8 a9 a10 a11 a12 a13 a14 a15 a16 a17 : Nat → Int32) (i : RI) : rPag (mkR a1 a2 a3 a4 a5 a6 a7 a8 a9 a10 a11 a12 a13 a14 a15 a16 a17 i) = a2 := rfl
theorem G_Use (a1 a2 a3 a4 a5 a6 a7 a8 a9 a10 a11 a12 a13 a14 a15 a16 a17 : Nat → Int32) (i : RI) : rUse (mkR a1 a2 a3 a4 a5 a6 a7 a8 a9 a10 a11 a12 a13 a14 a15 a16 a17 i) = a3 := rfl
theorem G_Nex (a1 a2 a3 a4 a5 a6 a7 a8 a9 a10 a11 a12 a13 a14 a15 a16 a17 : Nat → Int32) (i : RI) : rNex (mkR a1 a2 a3 a4 a5 a6 a7 a8 a9 a10 a11 a12 a13 a14 a15 a16 a17 i) = a4 := rfl
theorem G_Bef (a1 a2 a3 a4 a5 a6 a7 a8 a9 a10 a11 a12 a13 a14 a15 a16 a17 : Nat → Int32) (i : RI) : rBef (mkR a1 a2 a3 a4 a5 a6 a7 a8 a9 a10 a11 a12 a13 a14 a15 a16 a17 i) = a5 := rfl
theorem G_Byt (a1 a2 a3 a4 a5 a6 a7 a8 a9 a10 a11 a12 a13 a14 a15 a16 a17 : Nat → Int32) (i : RI) : rByt (mkR a1 a2 a3 a4 a5 a6 a7 a8 a9 a10 a11 a12 a13 a14 a15 a16 a17 i) = a6 := rfl
theorem G_Bad (a1 a2 a3 a4 a5 a6 a7 a8 a9 a10 a11 a12 a13 a14 a15 a16 a17 : Nat → Int32) (i : RI) : rBad (mkR a1 a2 a3 a4 a5 a6 a7 a8 a9 a10 a11 a12 a13 a14 a15 a16 a17 i) = a7 := rfl
theorem G_Kep (a1 a2 a3 a4 a5 a6 a7 a8 a9 a10 a11 a12 a13 a14 a15 a16 a17 : Nat → Int32) (i : RI) : rKep (mkR a1 a2 a3 a4 a5 a6 a7 a8 a9 a10 a11 a12 a13 a14 a15 a16 a17 i) = a8 := rfl
theorem G_Mar (a1 a2 a3 a4 a5 a6 a7 a8 a9 a10 a11 a12 a13 a14 a15 a16 a17 : Nat → Int32) (i : RI) : rMar (mkR a1 a2 a3 a4 a5 a6 a7 a8 a9 a10 a11 a12 a13 a14 a15 a16 a17 i) = a9 := rfl
theorem G_Rep (a1 a2 a3 a4 a5 a6 a7 a8 a9 a10 a11 a12 a13 a14 a15 a16 a17 : Nat → Int32) (i : RI) : rRep (mkR a1 a2 a3 a4 a5 a6 a7 a8 a9 a10 a11 a12 a13 a14 a15 a16 a17 i) = a10 := rfl
theorem G_Row (a1 a2 a3 a4 a5 a6 a7 a8 a9 a10 a11 a12 a13 a14 a15 a16 a17 : Nat → Int32) (i : RI) : rRow (mkR a1 a2 a3 a4 a5 a6 a7 a8 a9 a10 a11 a12 a13 a14 a15 a16 a17 i) = a11 := rfl
theorem G_Tab (a1 a2 a3 a4 a5 a6 a7 a8 a9 a10 a11 a12 a13 a14 a15 a16 a17 : Nat → Int32) (i : RI) : rTab (mkR a1 a2 a3 a4 a5 a6 a7 a8 a9 a10 a11 a12 a13 a14 a15 a16 a17 i) = a12 := rfl
theorem G_Man (a1 a2 a3 a4 a5 a6 a7 a8 a9 a10 a11 a12 a13 a14 a15 a16 a17 : Nat → Int32) (i : RI) : rMan (mkR a1 a2 a3 a4 a5 a6 a7 a8 a9 a10 a11 a12 a13 a14 a15 a16 a17 i) = a13 := rfl
theorem G_Rea (a1 a2 a3 a4 a5 a6 a7 a8 a9 a10 a11 a12 a13 a14 a15 a16 a17 : Nat → Int32) (i : RI) : rRea (mkR a1 a2 a3 a4 a5 a6 a7 a8 a9 a10 a11 a12 a13 a14 a15 a16 a17 i) = a14 := rfl
theorem G_Wal (a1 a2 a3 a4 a5 a6 a7 a8 a9 a10 a11 a12 a13 a14 a15 a16 a17 : Nat → Int32) (i : RI) : rWal (mkR a1 a2 a3 a4 a5 a6 a7 a8 a9 a10 a11 a12 a13 a14 a15 a16 a17 i) = a15 := rfl
theorem G_Rch (a1 a2 a3 a4 a5 a6 a7 a8 a9 a10 a11 a12 a13 a14 a15 a16 a17 : Nat → Int32) (i : RI) : rRch (mkR a1 a2 a3 a4 a5 a6 a7 a8 a9 a10 a11 a12 a13 a14 a15 a16 a17 i) = a16 := rfl
theorem G_Was (a1 a2 a3 a4 a5 a6 a7 a8 a9 a10 a11 a12 a13 a14 a15 a16 a17 : Nat → Int32) (i : RI) : rWas (mkR a1 a2 a3 a4 a5 a6 a7 a8 a9 a10 a11 a12 a13 a14 a15 a16 a17 i) = a17 := rfl
theorem G_I (a1 a2 a3 a4 a5 a6 a7 a8 a9 a10 a11 a12 a13 a14 a15 a16 a17 : Nat → Int32) (i : RI) : (mkR a1 a2 a3 a4 a5 a6 a7 a8 a9 a10 a11 a12 a13 a14 a15 a16 a17 i).2 = i := rfl
theorem eta_R (r : RS) : mkR (rSer r) (rPag r) (rUse r) (rNex r) (rBef r) (rByt r) (rBad r) (rKep r) (rMar r) (rRep r) (rRow r) (rTab r) (rMan r) (rRea r) (rWal r) (rRch r) (rWas r) r.2 = r := by
  obtain ⟨⟨a1, a2, a3, a4, a5, a6, a7, a8, a9, a10, a11, a12, a13, a14, a15, a16, a17⟩, i⟩ := r
  rfl
theorem P_Kep (r : RS) (t : Nat → Int32) : rSKep r t = mkR (rSer r) (rPag r) (rUse r) (rNex r) (rBef r) (rByt r) (rBad r) t (rMar r) (rRep r) (rRow r) (rTab r) (rMan r) (rRea r) (rWal r) (rRch r) (rWas r) r.2 := rfl
theorem Ser_Kep (r : RS) (t : Nat → Int32) : rSer (rSKep r t) = rSer r := by rw [P_Kep, G_Ser]
theorem Pag_Kep (r : RS) (t : Nat → Int32) : rPag (rSKep r t) = rPag r := by rw [P_Kep, G_Pag]
theorem Use_Kep (r : RS) (t : Nat → Int32) : rUse (rSKep r t) = rUse r := by rw [P_Kep, G_Use]
theorem Nex_Kep (r : RS) (t : Nat → Int32) : rNex (rSKep r t) = rNex r := by rw [P_Kep, G_Nex]
theorem Bef_Kep (r : RS) (t : Nat → Int32) : rBef (rSKep r t) = rBef r := by rw [P_Kep, G_Bef]
theorem Byt_Kep (r : RS) (t : Nat → Int32) : rByt (rSKep r t) = rByt r := by rw [P_Kep, G_Byt]
theorem Bad_Kep (r : RS) (t : Nat → Int32) : rBad (rSKep r t) = rBad r := by rw [P_Kep, G_Bad]
theorem Kep_Kep (r : RS) (t : Nat → Int32) : rKep (rSKep r t) = t := by rw [P_Kep, G_Kep]
theorem Mar_Kep (r : RS) (t : Nat → Int32) : rMar (rSKep r t) = rMar r := by rw [P_Kep, G_Mar]
theorem Rep_Kep (r : RS) (t : Nat → Int32) : rRep (rSKep r t) = rRep r := by rw [P_Kep, G_Rep]
theorem Row_Kep (r : RS) (t : Nat → Int32) : rRow (rSKep r t) = rRow r := by rw [P_Kep, G_Row]
theorem Tab_Kep (r : RS) (t : Nat → Int32) : rTab (rSKep r t) = rTab r := by rw [P_Kep, G_Tab]
theorem Man_Kep (r : RS) (t : Nat → Int32) : rMan (rSKep r t) = rMan r := by rw [P_Kep, G_Man]
theorem Rea_Kep (r : RS) (t : Nat → Int32) : rRea (rSKep r t) = rRea r := by rw [P_Kep, G_Rea]
theorem Wal_Kep (r : RS) (t : Nat → Int32) : rWal (rSKep r t) = rWal r := by rw [P_Kep, G_Wal]
theorem Rch_Kep (r : RS) (t : Nat → Int32) : rRch (rSKep r t) = rRch r := by rw [P_Kep, G_Rch]
theorem Was_Kep (r : RS) (t : Nat → Int32) : rWas (rSKep r t) = rWas r := by rw [P_Kep, G_Was]
theorem I_Kep (r : RS) (t : Nat → Int32) : (rSKep r t).2 = r.2 := by rw [P_Kep, G_I]
theorem S_Kep_Kep (r : RS) (A B : Nat → Int32) : rSKep (rSKep r A) B = rSKep r B := by
  rw [P_Kep (rSKep r A) B, Ser_Kep, Pag_Kep, Use_Kep, Nex_Kep, Bef_Kep, Byt_Kep, Bad_Kep, Mar_Kep, Rep_Kep, Row_Kep, Tab_Kep, Man_Kep, Rea_Kep, Wal_Kep, Rch_Kep, Was_Kep, I_Kep, ← P_Kep]
theorem S_Kep_id (r : RS) : rSKep r (rKep r) = r := by rw [P_Kep, eta_R]
theorem P_Mar (r : RS) (t : Nat → Int32) : rSMar r t = mkR (rSer r) (rPag r) (rUse r) (rNex r) (rBef r) (rByt r) (rBad r) (rKep r) t (rRep r) (rRow r) (rTab r) (rMan r) (rRea r) (rWal r) (rRch r) (rWas r) r.2 := rfl
theorem Ser_Mar (r : RS) (t : Nat → Int32) : rSer (rSMar r t) = rSer r := by rw [P_Mar, G_Ser]
theorem Pag_Mar (r : RS) (t : Nat → Int32) : rPag (rSMar r t) = rPag r := by rw [P_Mar, G_Pag]
theorem Use_Mar (r : RS) (t : Nat → Int32) : rUse (rSMar r t) = rUse r := by rw [P_Mar, G_Use]
theorem Nex_Mar (r : RS) (t : Nat → Int32) : rNex (rSMar r t) = rNex r := by rw [P_Mar, G_Nex]
theorem Bef_Mar (r : RS) (t : Nat → Int32) : rBef (rSMar r t) = rBef r := by rw [P_Mar, G_Bef]
theorem Byt_Mar (r : RS) (t : Nat → Int32) : rByt (rSMar r t) = rByt r := by rw [P_Mar, G_Byt]
theorem Bad_Mar (r : RS) (t : Nat → Int32) : rBad (rSMar r t) = rBad r := by rw [P_Mar, G_Bad]
theorem Kep_Mar (r : RS) (t : Nat → Int32) : rKep (rSMar r t) = rKep r := by rw [P_Mar, G_Kep]
theorem Mar_Mar (r : RS) (t : Nat → Int32) : rMar (rSMar r t) = t := by rw [P_Mar, G_Mar]
theorem Rep_Mar (r : RS) (t : Nat → Int32) : rRep (rSMar r t) = rRep r := by rw [P_Mar, G_Rep]
theorem Row_Mar (r : RS) (t : Nat → Int32) : rRow (rSMar r t) = rRow r := by rw [P_Mar, G_Row]
theorem Tab_Mar (r : RS) (t : Nat → Int32) : rTab (rSMar r t) = rTab r := by rw [P_Mar, G_Tab]
theorem Man_Mar (r : RS) (t : Nat → Int32) : rMan (rSMar r t) = rMan r := by rw [P_Mar, G_Man]
theorem Rea_Mar (r : RS) (t : Nat → Int32) : rRea (rSMar r t) = rRea r := by rw [P_Mar, G_Rea]
theorem Wal_Mar (r : RS) (t : Nat → Int32) : rWal (rSMar r t) = rWal r := by rw [P_Mar, G_Wal]
theorem Rch_Mar (r : RS) (t : Nat → Int32) : rRch (rSMar r t) = rRch r := by rw [P_Mar, G_Rch]
theorem Was_Mar (r : RS) (t : Nat → Int32) : rWas (rSMar r t) = rWas r := by rw [P_Mar, G_Was]
theorem I_Mar (r : RS) (t : Nat → Int32) : (rSMar r t).2 = r.2 := by rw [P_Mar, G_I]
theorem S_Mar_Mar (r : RS) (A B : Nat → Int32) : rSMar (rSMar r A) B = rSMar r B := by
  rw [P_Mar (rSMar r A) B, Ser_Mar, Pag_Mar, Use_Mar, Nex_Mar, Bef_Mar, Byt_Mar, Bad_Mar, Kep_Mar, Rep_Mar, Row_Mar, Tab_Mar, Man_Mar, Rea_Mar, Wal_Mar, Rch_Mar, Was_Mar, I_Mar, ← P_Mar]
theorem S_Mar_id (r : RS) : rSMar r (rMar r) = r := by rw [P_Mar, eta_R]
theorem P_Rep (r : RS) (t : Nat → Int32) : rSRep r t = mkR (rSer r) (rPag r) (rUse r) (rNex r) (rBef r) (rByt r) (rBad r) (rKep r) (rMar r) t (rRow r) (rTab r) (rMan r) (rRea r) (rWal r) (rRch r) (rWas r) r.2 := rfl
theorem Ser_Rep (r : RS) (t : Nat → Int32) : rSer (rSRep r t) = rSer r := by rw [P_Rep, G_Ser]
theorem Pag_Rep (r : RS) (t : Nat → Int32) : rPag (rSRep r t) = rPag r := by rw [P_Rep, G_Pag]
theorem Use_Rep (r : RS) (t : Nat → Int32) : rUse (rSRep r t) = rUse r := by rw [P_Rep, G_Use]
theorem Nex_Rep (r : RS) (t : Nat → Int32) : rNex (rSRep r t) = rNex r := by rw [P_Rep, G_Nex]
theorem Bef_Rep (r : RS) (t : Nat → Int32) : rBef (rSRep r t) = rBef r := by rw [P_Rep, G_Bef]
theorem Byt_Rep (r : RS) (t : Nat → Int32) : rByt (rSRep r t) = rByt r := by rw [P_Rep, G_Byt]
theorem Bad_Rep (r : RS) (t : Nat → Int32) : rBad (rSRep r t) = rBad r := by rw [P_Rep, G_Bad]
theorem Kep_Rep (r : RS) (t : Nat → Int32) : rKep (rSRep r t) = rKep r := by rw [P_Rep, G_Kep]
theorem Mar_Rep (r : RS) (t : Nat → Int32) : rMar (rSRep r t) = rMar r := by rw [P_Rep, G_Mar]
theorem Rep_Rep (r : RS) (t : Nat → Int32) : rRep (rSRep r t) = t := by rw [P_Rep, G_Rep]
theorem Row_Rep (r : RS) (t : Nat → Int32) : rRow (rSRep r t) = rRow r := by rw [P_Rep, G_Row]
theorem Tab_Rep (r : RS) (t : Nat → Int32) : rTab (rSRep r t) = rTab r := by rw [P_Rep, G_Tab]
theorem Man_Rep (r : RS) (t : Nat → Int32) : rMan (rSRep r t) = rMan r := by rw [P_Rep, G_Man]
theorem Rea_Rep (r : RS) (t : Nat → Int32) : rRea (rSRep r t) = rRea r := by rw [P_Rep, G_Rea]
theorem Wal_Rep (r : RS) (t : Nat → Int32) : rWal (rSRep r t) = rWal r := by rw [P_Rep, G_Wal]
theorem Rch_Rep (r : RS) (t : Nat → Int32) : rRch (rSRep r t) = rRch r := by rw [P_Rep, G_Rch]
theorem Was_Rep (r : RS) (t : Nat → Int32) : rWas (rSRep r t) = rWas r := by rw [P_Rep, G_Was]
theorem I_Rep (r : RS) (t : Nat → Int32) : (rSRep r t).2 = r.2 := by rw [P_Rep, G_I]
theorem S_Rep_Rep (r : RS) (A B : Nat → Int32) : rSRep (rSRep r A) B = rSRep r B := by
  rw [P_Rep (rSRep r A) B, Ser_Rep, Pag_Rep, Use_Rep, Nex_Rep, Bef_Rep, Byt_Rep, Bad_Rep, Kep_Rep, Mar_Rep, Row_Rep, Tab_Rep, Man_Rep, Rea_Rep, Wal_Rep, Rch_Rep, Was_Rep, I_Rep, ← P_Rep]
theorem S_Rep_id (r : RS) : rSRep r (rRep r) = r := by rw [P_Rep, eta_R]
theorem P_Row (r : RS) (t : Nat → Int32) : rSRow r t = mkR (rSer r) (rPag r) (rUse r) (rNex r) (rBef r) (rByt r) (rBad r) (rKep r) (rMar r) (rRep r) t (rTab r) (rMan r) (rRea r) (rWal r) (rRch r) (rWas r) r.2 := rfl
theorem Ser_Row (r : RS) (t : Nat → Int32) : rSer (rSRow r t) = rSer r := by rw [P_Row, G_Ser]
theorem Pag_Row (r : RS) (t : Nat → Int32) : rPag (rSRow r t) = rPag r := by rw [P_Row, G_Pag]
theorem Use_Row (r : RS) (t : Nat → Int32) : rUse (rSRow r t) = rUse r := by rw [P_Row, G_Use]
theorem Nex_Row (r : RS) (t : Nat → Int32) : rNex (rSRow r t) = rNex r := by rw [P_Row, G_Nex]
theorem Bef_Row (r : RS) (t : Nat → Int32) : rBef (rSRow r t) = rBef r := by rw [P_Row, G_Bef]
theorem Byt_Row (r : RS) (t : Nat → Int32) : rByt (rSRow r t) = rByt r := by rw [P_Row, G_Byt]
theorem Bad_Row (r : RS) (t : Nat → Int32) : rBad (rSRow r t) = rBad r := by rw [P_Row, G_Bad]
theorem Kep_Row (r : RS) (t : Nat → Int32) : rKep (rSRow r t) = rKep r := by rw [P_Row, G_Kep]
theorem Mar_Row (r : RS) (t : Nat → Int32) : rMar (rSRow r t) = rMar r := by rw [P_Row, G_Mar]
theorem Rep_Row (r : RS) (t : Nat → Int32) : rRep (rSRow r t) = rRep r := by rw [P_Row, G_Rep]
theorem Row_Row (r : RS) (t : Nat → Int32) : rRow (rSRow r t) = t := by rw [P_Row, G_Row]
theorem Tab_Row (r : RS) (t : Nat → Int32) : rTab (rSRow r t) = rTab r := by rw [P_Row, G_Tab]
theorem Man_Row (r : RS) (t : Nat → Int32) : rMan (rSRow r t) = rMan r := by rw [P_Row, G_Man]
theorem Rea_Row (r : RS) (t : Nat → Int32) : rRea (rSRow r t) = rRea r := by rw [P_Row, G_Rea]
theorem Wal_Row (r : RS) (t : Nat → Int32) : rWal (rSRow r t) = rWal r := by rw [P_Row, G_Wal]
theorem Rch_Row (r : RS) (t : Nat → Int32) : rRch (rSRow r t) = rRch r := by rw [P_Row, G_Rch]
theorem Was_Row (r : RS) (t : Nat → Int32) : rWas (rSRow r t) = rWas r := by rw [P_Row, G_Was]
theorem I_Row (r : RS) (t : Nat → Int32) : (rSRow r t).2 = r.2 := by rw [P_Row, G_I]
theorem S_Row_Row (r : RS) (A B : Nat → Int32) : rSRow (rSRow r A) B = rSRow r B := by
  rw [P_Row (rSRow r A) B, Ser_Row, Pag_Row, Use_Row, Nex_Row, Bef_Row, Byt_Row, Bad_Row, Kep_Row, Mar_Row, Rep_Row, Tab_Row, Man_Row, Rea_Row, Wal_Row, Rch_Row, Was_Row, I_Row, ← P_Row]
theorem S_Row_id (r : RS) : rSRow r (rRow r) = r := by rw [P_Row, eta_R]
theorem P_Tab (r : RS) (t : Nat → Int32) : rSTab r t = mkR (rSer r) (rPag r) (rUse r) (rNex r) (rBef r) (rByt r) (rBad r) (rKep r) (rMar r) (rRep r) (rRow r) t (rMan r) (rRea r) (rWal r) (rRch r) (rWas r) r.2 := rfl
theorem Ser_Tab (r : RS) (t : Nat → Int32) : rSer (rSTab r t) = rSer r := by rw [P_Tab, G_Ser]
theorem Pag_Tab (r : RS) (t : Nat → Int32) : rPag (rSTab r t) = rPag r := by rw [P_Tab, G_Pag]
theorem Use_Tab (r : RS) (t : Nat → Int32) : rUse (rSTab r t) = rUse r := by rw [P_Tab, G_Use]
theorem Nex_Tab (r : RS) (t : Nat → Int32) : rNex (rSTab r t) = rNex r := by rw [P_Tab, G_Nex]
theorem Bef_Tab (r : RS) (t : Nat → Int32) : rBef (rSTab r t) = rBef r := by rw [P_Tab, G_Bef]
theorem Byt_Tab (r : RS) (t : Nat → Int32) : rByt (rSTab r t) = rByt r := by rw [P_Tab, G_Byt]
theorem Bad_Tab (r : RS) (t : Nat → Int32) : rBad (rSTab r t) = rBad r := by rw [P_Tab, G_Bad]
theorem Kep_Tab (r : RS) (t : Nat → Int32) : rKep (rSTab r t) = rKep r := by rw [P_Tab, G_Kep]
theorem Mar_Tab (r : RS) (t : Nat → Int32) : rMar (rSTab r t) = rMar r := by rw [P_Tab, G_Mar]
theorem Rep_Tab (r : RS) (t : Nat → Int32) : rRep (rSTab r t) = rRep r := by rw [P_Tab, G_Rep]
theorem Row_Tab (r : RS) (t : Nat → Int32) : rRow (rSTab r t) = rRow r := by rw [P_Tab, G_Row]
theorem Tab_Tab (r : RS) (t : Nat → Int32) : rTab (rSTab r t) = t := by rw [P_Tab, G_Tab]
theorem Man_Tab (r : RS) (t : Nat → Int32) : rMan (rSTab r t) = rMan r := by rw [P_Tab, G_Man]
theorem Rea_Tab (r : RS) (t : Nat → Int32) : rRea (rSTab r t) = rRea r := by rw [P_Tab, G_Rea]
theorem Wal_Tab (r : RS) (t : Nat → Int32) : rWal (rSTab r t) = rWal r := by rw [P_Tab, G_Wal]
theorem Rch_Tab (r : RS) (t : Nat → Int32) : rRch (rSTab r t) = rRch r := by rw [P_Tab, G_Rch]
theorem Was_Tab (r : RS) (t : Nat → Int32) : rWas (rSTab r t) = rWas r := by rw [P_Tab, G_Was]
theorem I_Tab (r : RS) (t : Nat → Int32) : (rSTab r t).2 = r.2 := by rw [P_Tab, G_I]
theorem S_Tab_Tab (r : RS) (A B : Nat → Int32) : rSTab (rSTab r A) B = rSTab r B := by
  rw [P_Tab (rSTab r A) B, Ser_Tab, Pag_Tab, Use_Tab, Nex_Tab, Bef_Tab, Byt_Tab, Bad_Tab, Kep_Tab, Mar_Tab, Rep_Tab, Row_Tab, Man_Tab, Rea_Tab, Wal_Tab, Rch_Tab, Was_Tab, I_Tab, ← P_Tab]
theorem S_Tab_id (r : RS) : rSTab r (rTab r) = r := by rw [P_Tab, eta_R]
theorem P_Man (r : RS) (t : Nat → Int32) : rSMan r t = mkR (rSer r) (rPag r) (rUse r) (rNex r) (rBef r) (rByt r) (rBad r) (rKep r) (rMar r) (rRep r) (rRow r) (rTab r) t (rRea r) (rWal r) (rRch r) (rWas r) r.2 := rfl
theorem Ser_Man (r : RS) (t : Nat → Int32) : rSer (rSMan r t) = rSer r := by rw [P_Man, G_Ser]
theorem Pag_Man (r : RS) (t : Nat → Int32) : rPag (rSMan r t) = rPag r := by rw [P_Man, G_Pag]
theorem Use_Man (r : RS) (t : Nat → Int32) : rUse (rSMan r t) = rUse r := by rw [P_Man, G_Use]
theorem Nex_Man (r : RS) (t : Nat → Int32) : rNex (rSMan r t) = rNex r := by rw [P_Man, G_Nex]
theorem Bef_Man (r : RS) (t : Nat → Int32) : rBef (rSMan r t) = rBef r := by rw [P_Man, G_Bef]
theorem Byt_Man (r : RS) (t : Nat → Int32) : rByt (rSMan r t) = rByt r := by rw [P_Man, G_Byt]
theorem Bad_Man (r : RS) (t : Nat → Int32) : rBad (rSMan r t) = rBad r := by rw [P_Man, G_Bad]
theorem Kep_Man (r : RS) (t : Nat → Int32) : rKep (rSMan r t) = rKep r := by rw [P_Man, G_Kep]
theorem Mar_Man (r : RS) (t : Nat → Int32) : rMar (rSMan r t) = rMar r := by rw [P_Man, G_Mar]
theorem Rep_Man (r : RS) (t : Nat → Int32) : rRep (rSMan r t) = rRep r := by rw [P_Man, G_Rep]
theorem Row_Man (r : RS) (t : Nat → Int32) : rRow (rSMan r t) = rRow r := by rw [P_Man, G_Row]
theorem Tab_Man (r : RS) (t : Nat → Int32) : rTab (rSMan r t) = rTab r := by rw [P_Man, G_Tab]
theorem Man_Man (r : RS) (t : Nat → Int32) : rMan (rSMan r t) = t := by rw [P_Man, G_Man]
theorem Rea_Man (r : RS) (t : Nat → Int32) : rRea (rSMan r t) = rRea r := by rw [P_Man, G_Rea]
theorem Wal_Man (r : RS) (t : Nat → Int32) : rWal (rSMan r t) = rWal r := by rw [P_Man, G_Wal]
theorem Rch_Man (r : RS) (t : Nat → Int32) : rRch (rSMan r t) = rRch r := by rw [P_Man, G_Rch]
theorem Was_Man (r : RS) (t : Nat → Int32) : rWas (rSMan r t) = rWas r := by rw [P_Man, G_Was]
theorem I_Man (r : RS) (t : Nat → Int32) : (rSMan r t).2 = r.2 := by rw [P_Man, G_I]
theorem S_Man_Man (r : RS) (A B : Nat → Int32) : rSMan (rSMan r A) B = rSMan r B := by
  rw [P_Man (rSMan r A) B, Ser_Man, Pag_Man, Use_Man, Nex_Man, Bef_Man, Byt_Man, Bad_Man, Kep_Man, Mar_Man, Rep_Man, Row_Man, Tab_Man, Rea_Man, Wal_Man, Rch_Man, Was_Man, I_Man, ← P_Man]
theorem S_Man_id (r : RS) : rSMan r (rMan r) = r := by rw [P_Man, eta_R]
theorem P_Rea (r : RS) (t : Nat → Int32) : rSRea r t = mkR (rSer r) (rPag r) (rUse r) (rNex r) (rBef r) (rByt r) (rBad r) (rKep r) (rMar r) (rRep r) (rRow r) (rTab r) (rMan r) t (rWal r) (rRch r) (rWas r) r.2 := rfl
theorem Ser_Rea (r : RS) (t : Nat → Int32) : rSer (rSRea r t) = rSer r := by rw [P_Rea, G_Ser]
theorem Pag_Rea (r : RS) (t : Nat → Int32) : rPag (rSRea r t) = rPag r := by rw [P_Rea, G_Pag]
theorem Use_Rea (r : RS) (t : Nat → Int32) : rUse (rSRea r t) = rUse r := by rw [P_Rea, G_Use]
theorem Nex_Rea (r : RS) (t : Nat → Int32) : rNex (rSRea r t) = rNex r := by rw [P_Rea, G_Nex]
theorem Bef_Rea (r : RS) (t : Nat → Int32) : rBef (rSRea r t) = rBef r := by rw [P_Rea, G_Bef]
theorem Byt_Rea (r : RS) (t : Nat → Int32) : rByt (rSRea r t) = rByt r := by rw [P_Rea, G_Byt]
theorem Bad_Rea (r : RS) (t : Nat → Int32) : rBad (rSRea r t) = rBad r := by rw [P_Rea, G_Bad]
theorem Kep_Rea (r : RS) (t : Nat → Int32) : rKep (rSRea r t) = rKep r := by rw [P_Rea, G_Kep]
theorem Mar_Rea (r : RS) (t : Nat → Int32) : rMar (rSRea r t) = rMar r := by rw [P_Rea, G_Mar]
theorem Rep_Rea (r : RS) (t : Nat → Int32) : rRep (rSRea r t) = rRep r := by rw [P_Rea, G_Rep]
theorem Row_Rea (r : RS) (t : Nat → Int32) : rRow (rSRea r t) = rRow r := by rw [P_Rea, G_Row]
theorem Tab_Rea (r : RS) (t : Nat → Int32) : rTab (rSRea r t) = rTab r := by rw [P_Rea, G_Tab]
theorem Man_Rea (r : RS) (t : Nat → Int32) : rMan (rSRea r t) = rMan r := by rw [P_Rea, G_Man]
theorem Rea_Rea (r : RS) (t : Nat → Int32) : rRea (rSRea r t) = t := by rw [P_Rea, G_Rea]
theorem Wal_Rea (r : RS) (t : Nat → Int32) : rWal (rSRea r t) = rWal r := by rw [P_Rea, G_Wal]
theorem Rch_Rea (r : RS) (t : Nat → Int32) : rRch (rSRea r t) = rRch r := by rw [P_Rea, G_Rch]
theorem Was_Rea (r : RS) (t : Nat → Int32) : rWas (rSRea r t) = rWas r := by rw [P_Rea, G_Was]
theorem I_Rea (r : RS) (t : Nat → Int32) : (rSRea r t).2 = r.2 := by rw [P_Rea, G_I]
theorem S_Rea_Rea (r : RS) (A B : Nat → Int32) : rSRea (rSRea r A) B = rSRea r B := by
  rw [P_Rea (rSRea r A) B, Ser_Rea, Pag_Rea, Use_Rea, Nex_Rea, Bef_Rea, Byt_Rea, Bad_Rea, Kep_Rea, Mar_Rea, Rep_Rea, Row_Rea, Tab_Rea, Man_Rea, Wal_Rea, Rch_Rea, Was_Rea, I_Rea, ← P_Rea]
theorem S_Rea_id (r : RS) : rSRea r (rRea r) = r := by rw [P_Rea, eta_R]
theorem P_Wal (r : RS) (t : Nat → Int32) : rSWal r t = mkR (rSer r) (rPag r) (rUse r) (rNex r) (rBef r) (rByt r) (rBad r) (rKep r) (rMar r) (rRep r) (rRow r) (rTab r) (rMan r) (rRea r) t (rRch r) (rWas r) r.2 := rfl
theorem Ser_Wal (r : RS) (t : Nat → Int32) : rSer (rSWal r t) = rSer r := by rw [P_Wal, G_Ser]
theorem Pag_Wal (r : RS) (t : Nat → Int32) : rPag (rSWal r t) = rPag r := by rw [P_Wal, G_Pag]
theorem Use_Wal (r : RS) (t : Nat → Int32) : rUse (rSWal r t) = rUse r := by rw [P_Wal, G_Use]
theorem Nex_Wal (r : RS) (t : Nat → Int32) : rNex (rSWal r t) = rNex r := by rw [P_Wal, G_Nex]
theorem Bef_Wal (r : RS) (t : Nat → Int32) : rBef (rSWal r t) = rBef r := by rw [P_Wal, G_Bef]
theorem Byt_Wal (r : RS) (t : Nat → Int32) : rByt (rSWal r t) = rByt r := by rw [P_Wal, G_Byt]
theorem Bad_Wal (r : RS) (t : Nat → Int32) : rBad (rSWal r t) = rBad r := by rw [P_Wal, G_Bad]
theorem Kep_Wal (r : RS) (t : Nat → Int32) : rKep (rSWal r t) = rKep r := by rw [P_Wal, G_Kep]
theorem Mar_Wal (r : RS) (t : Nat → Int32) : rMar (rSWal r t) = rMar r := by rw [P_Wal, G_Mar]
theorem Rep_Wal (r : RS) (t : Nat → Int32) : rRep (rSWal r t) = rRep r := by rw [P_Wal, G_Rep]
theorem Row_Wal (r : RS) (t : Nat → Int32) : rRow (rSWal r t) = rRow r := by rw [P_Wal, G_Row]
theorem Tab_Wal (r : RS) (t : Nat → Int32) : rTab (rSWal r t) = rTab r := by rw [P_Wal, G_Tab]
theorem Man_Wal (r : RS) (t : Nat → Int32) : rMan (rSWal r t) = rMan r := by rw [P_Wal, G_Man]
theorem Rea_Wal (r : RS) (t : Nat → Int32) : rRea (rSWal r t) = rRea r := by rw [P_Wal, G_Rea]
theorem Wal_Wal (r : RS) (t : Nat → Int32) : rWal (rSWal r t) = t := by rw [P_Wal, G_Wal]
theorem Rch_Wal (r : RS) (t : Nat → Int32) : rRch (rSWal r t) = rRch r := by rw [P_Wal, G_Rch]
theorem Was_Wal (r : RS) (t : Nat → Int32) : rWas (rSWal r t) = rWas r := by rw [P_Wal, G_Was]
theorem I_Wal (r : RS) (t : Nat → Int32) : (rSWal r t).2 = r.2 := by rw [P_Wal, G_I]
theorem S_Wal_Wal (r : RS) (A B : Nat → Int32) : rSWal (rSWal r A) B = rSWal r B := by
  rw [P_Wal (rSWal r A) B, Ser_Wal, Pag_Wal, Use_Wal, Nex_Wal, Bef_Wal, Byt_Wal, Bad_Wal, Kep_Wal, Mar_Wal, Rep_Wal, Row_Wal, Tab_Wal, Man_Wal, Rea_Wal, Rch_Wal, Was_Wal, I_Wal, ← P_Wal]
theorem S_Wal_id (r : RS) : rSWal r (rWal r) = r := by rw [P_Wal, eta_R]
theorem P_Rch (r : RS) (t : Nat → Int32) : rSRch r t = mkR (rSer r) (rPag r) (rUse r) (rNex r) (rBef r) (rByt r) (rBad r) (rKep r) (rMar r) (rRep r) (rRow r) (rTab r) (rMan r) (rRea r) (rWal r) t (rWas r) r.2 := rfl
theorem Ser_Rch (r : RS) (t : Nat → Int32) : rSer (rSRch r t) = rSer r := by rw [P_Rch, G_Ser]
theorem Pag_Rch (r : RS) (t : Nat → Int32) : rPag (rSRch r t) = rPag r := by rw [P_Rch, G_Pag]
theorem Use_Rch (r : RS) (t : Nat → Int32) : rUse (rSRch r t) = rUse r := by rw [P_Rch, G_Use]
theorem Nex_Rch (r : RS) (t : Nat → Int32) : rNex (rSRch r t) = rNex r := by rw [P_Rch, G_Nex]
theorem Bef_Rch (r : RS) (t : Nat → Int32) : rBef (rSRch r t) = rBef r := by rw [P_Rch, G_Bef]
theorem Byt_Rch (r : RS) (t : Nat → Int32) : rByt (rSRch r t) = rByt r := by rw [P_Rch, G_Byt]
theorem Bad_Rch (r : RS) (t : Nat → Int32) : rBad (rSRch r t) = rBad r := by rw [P_Rch, G_Bad]
theorem Kep_Rch (r : RS) (t : Nat → Int32) : rKep (rSRch r t) = rKep r := by rw [P_Rch, G_Kep]
theorem Mar_Rch (r : RS) (t : Nat → Int32) : rMar (rSRch r t) = rMar r := by rw [P_Rch, G_Mar]
theorem Rep_Rch (r : RS) (t : Nat → Int32) : rRep (rSRch r t) = rRep r := by rw [P_Rch, G_Rep]
theorem Row_Rch (r : RS) (t : Nat → Int32) : rRow (rSRch r t) = rRow r := by rw [P_Rch, G_Row]
theorem Tab_Rch (r : RS) (t : Nat → Int32) : rTab (rSRch r t) = rTab r := by rw [P_Rch, G_Tab]
theorem Man_Rch (r : RS) (t : Nat → Int32) : rMan (rSRch r t) = rMan r := by rw [P_Rch, G_Man]
theorem Rea_Rch (r : RS) (t : Nat → Int32) : rRea (rSRch r t) = rRea r := by rw [P_Rch, G_Rea]
theorem Wal_Rch (r : RS) (t : Nat → Int32) : rWal (rSRch r t) = rWal r := by rw [P_Rch, G_Wal]
theorem Rch_Rch (r : RS) (t : Nat → Int32) : rRch (rSRch r t) = t := by rw [P_Rch, G_Rch]
theorem Was_Rch (r : RS) (t : Nat → Int32) : rWas (rSRch r t) = rWas r := by rw [P_Rch, G_Was]
theorem I_Rch (r : RS) (t : Nat → Int32) : (rSRch r t).2 = r.2 := by rw [P_Rch, G_I]
theorem S_Rch_Rch (r : RS) (A B : Nat → Int32) : rSRch (rSRch r A) B = rSRch r B := by
  rw [P_Rch (rSRch r A) B, Ser_Rch, Pag_Rch, Use_Rch, Nex_Rch, Bef_Rch, Byt_Rch, Bad_Rch, Kep_Rch, Mar_Rch, Rep_Rch, Row_Rch, Tab_Rch, Man_Rch, Rea_Rch, Wal_Rch, Was_Rch, I_Rch, ← P_Rch]
theorem S_Rch_id (r : RS) : rSRch r (rRch r) = r := by rw [P_Rch, eta_R]
theorem P_Was (r : RS) (t : Nat → Int32) : rSWas r t = mkR (rSer r) (rPag r) (rUse r) (rNex r) (rBef r) (rByt r) (rBad r) (rKep r) (rMar r) (rRep r) (rRow r) (rTab r) (rMan r) (rRea r) (rWal r) (rRch r) t r.2 := rfl
theorem Ser_Was (r : RS) (t : Nat → Int32) : rSer (rSWas r t) = rSer r := by rw [P_Was, G_Ser]
theorem Pag_Was (r : RS) (t : Nat → Int32) : rPag (rSWas r t) = rPag r := by rw [P_Was, G_Pag]
theorem Use_Was (r : RS) (t : Nat → Int32) : rUse (rSWas r t) = rUse r := by rw [P_Was, G_Use]
theorem Nex_Was (r : RS) (t : Nat → Int32) : rNex (rSWas r t) = rNex r := by rw [P_Was, G_Nex]
theorem Bef_Was (r : RS) (t : Nat → Int32) : rBef (rSWas r t) = rBef r := by rw [P_Was, G_Bef]
theorem Byt_Was (r : RS) (t : Nat → Int32) : rByt (rSWas r t) = rByt r := by rw [P_Was, G_Byt]
theorem Bad_Was (r : RS) (t : Nat → Int32) : rBad (rSWas r t) = rBad r := by rw [P_Was, G_Bad]
theorem Kep_Was (r : RS) (t : Nat → Int32) : rKep (rSWas r t) = rKep r := by rw [P_Was, G_Kep]
theorem Mar_Was (r : RS) (t : Nat → Int32) : rMar (rSWas r t) = rMar r := by rw [P_Was, G_Mar]
theorem Rep_Was (r : RS) (t : Nat → Int32) : rRep (rSWas r t) = rRep r := by rw [P_Was, G_Rep]
theorem Row_Was (r : RS) (t : Nat → Int32) : rRow (rSWas r t) = rRow r := by rw [P_Was, G_Row]
theorem Tab_Was (r : RS) (t : Nat → Int32) : rTab (rSWas r t) = rTab r := by rw [P_Was, G_Tab]
theorem Man_Was (r : RS) (t : Nat → Int32) : rMan (rSWas r t) = rMan r := by rw [P_Was, G_Man]
theorem Rea_Was (r : RS) (t : Nat → Int32) : rRea (rSWas r t) = rRea r := by rw [P_Was, G_Rea]
theorem Wal_Was (r : RS) (t : Nat → Int32) : rWal (rSWas r t) = rWal r := by rw [P_Was, G_Wal]
theorem Rch_Was (r : RS) (t : Nat → Int32) : rRch (rSWas r t) = rRch r := by rw [P_Was, G_Rch]
theorem Was_Was (r : RS) (t : Nat → Int32) : rWas (rSWas r t) = t := by rw [P_Was, G_Was]
theorem I_Was (r : RS) (t : Nat → Int32) : (rSWas r t).2 = r.2 := by rw [P_Was, G_I]
theorem S_Was_Was (r : RS) (A B : Nat → Int32) : rSWas (rSWas r A) B = rSWas r B := by
  rw [P_Was (rSWas r A) B, Ser_Was, Pag_Was, Use_Was, Nex_Was, Bef_Was, Byt_Was, Bad_Was, Kep_Was, Mar_Was, Rep_Was, Row_Was, Tab_Was, Man_Was, Rea_Was, Wal_Was, Rch_Was, I_Was, ← P_Was]
theorem S_Was_id (r : RS) : rSWas r (rWas r) = r := by rw [P_Was, eta_R]
theorem P_Byt (r : RS) (t : Nat → Int32) : rSByt r t = mkR (rSer r) (rPag r) (rUse r) (rNex r) (rBef r) t (rBad r) (rKep r) (rMar r) (rRep r) (rRow r) (rTab r) (rMan r) (rRea r) (rWal r) (rRch r) (rWas r) r.2 := rfl
theorem Ser_Byt (r : RS) (t : Nat → Int32) : rSer (rSByt r t) = rSer r := by rw [P_Byt, G_Ser]
theorem Pag_Byt (r : RS) (t : Nat → Int32) : rPag (rSByt r t) = rPag r := by rw [P_Byt, G_Pag]
theorem Use_Byt (r : RS) (t : Nat → Int32) : rUse (rSByt r t) = rUse r := by rw [P_Byt, G_Use]
theorem Nex_Byt (r : RS) (t : Nat → Int32) : rNex (rSByt r t) = rNex r := by rw [P_Byt, G_Nex]
theorem Bef_Byt (r : RS) (t : Nat → Int32) : rBef (rSByt r t) = rBef r := by rw [P_Byt, G_Bef]
theorem Byt_Byt (r : RS) (t : Nat → Int32) : rByt (rSByt r t) = t := by rw [P_Byt, G_Byt]
theorem Bad_Byt (r : RS) (t : Nat → Int32) : rBad (rSByt r t) = rBad r := by rw [P_Byt, G_Bad]
theorem Kep_Byt (r : RS) (t : Nat → Int32) : rKep (rSByt r t) = rKep r := by rw [P_Byt, G_Kep]
theorem Mar_Byt (r : RS) (t : Nat → Int32) : rMar (rSByt r t) = rMar r := by rw [P_Byt, G_Mar]
theorem Rep_Byt (r : RS) (t : Nat → Int32) : rRep (rSByt r t) = rRep r := by rw [P_Byt, G_Rep]
theorem Row_Byt (r : RS) (t : Nat → Int32) : rRow (rSByt r t) = rRow r := by rw [P_Byt, G_Row]
theorem Tab_Byt (r : RS) (t : Nat → Int32) : rTab (rSByt r t) = rTab r := by rw [P_Byt, G_Tab]
theorem Man_Byt (r : RS) (t : Nat → Int32) : rMan (rSByt r t) = rMan r := by rw [P_Byt, G_Man]
theorem Rea_Byt (r : RS) (t : Nat → Int32) : rRea (rSByt r t) = rRea r := by rw [P_Byt, G_Rea]
theorem Wal_Byt (r : RS) (t : Nat → Int32) : rWal (rSByt r t) = rWal r := by rw [P_Byt, G_Wal]
theorem Rch_Byt (r : RS) (t : Nat → Int32) : rRch (rSByt r t) = rRch r := by rw [P_Byt, G_Rch]
theorem Was_Byt (r : RS) (t : Nat → Int32) : rWas (rSByt r t) = rWas r := by rw [P_Byt, G_Was]
theorem I_Byt (r : RS) (t : Nat → Int32) : (rSByt r t).2 = r.2 := by rw [P_Byt, G_I]
theorem S_Byt_Byt (r : RS) (A B : Nat → Int32) : rSByt (rSByt r A) B = rSByt r B := by
  rw [P_Byt (rSByt r A) B, Ser_Byt, Pag_Byt, Use_Byt, Nex_Byt, Bef_Byt, Bad_Byt, Kep_Byt, Mar_Byt, Rep_Byt, Row_Byt, Tab_Byt, Man_Byt, Rea_Byt, Wal_Byt, Rch_Byt, Was_Byt, I_Byt, ← P_Byt]
theorem S_Byt_id (r : RS) : rSByt r (rByt r) = r := by rw [P_Byt, eta_R]
theorem rC_cg {r r' : RS} (h1 : rSer r' = rSer r) (h2 : rPag r' = rPag r) (h3 : rUse r' = rUse r) (h4 : rNex r' = rNex r) (h5 : rBef r' = rBef r) (h6 : rByt r' = rByt r) (i k : Nat) : rC r' i k = rC r i k := by
  match k with
  | 0 => exact congrFun h1 i
  | 1 => exact congrFun h2 i
  | 2 => exact congrFun h3 i
  | 3 => exact congrFun h4 i
  | 4 => exact congrFun h5 i
  | k + 5 => exact congrFun h6 _
theorem RD.cg {d : DS} {r r' : RS} (h : RD d r) (h1 : rSer r' = rSer r) (h2 : rPag r' = rPag r) (h3 : rUse r' = rUse r) (h4 : rNex r' = rNex r) (h5 : rBef r' = rBef r) (h6 : rByt r' = rByt r) (h7 : rBad r' = rBad r) (h8 : r'.2 = r.2) : RD d r' := by
  have g1 : rMis r' = rMis r := congrArg (fun z => z.2.2.1) h8
  have g2 : rWri r' = rWri r := congrArg (fun z => z.2.2.2.1) h8
  have g3 : rDar r' = rDar r := congrArg (fun z => z.2.2.2.2.1) h8
  have g4 : rLef r' = rLef r := congrArg (fun z => z.2.2.2.2.2.1) h8
  refine ⟨fun i hi k hk => ?_, fun i hi => ?_, ?_, ?_, ?_, ?_⟩
  · rw [rC_cg h1 h2 h3 h4 h5 h6]; exact h.1 i hi k hk
  · rw [h7]; exact h.2.1 i hi
  · rw [g1]; exact h.2.2.1
  · rw [g2]; exact h.2.2.2.1
  · rw [g4]; exact h.2.2.2.2.1
  · rw [g3]; exact h.2.2.2.2.2
theorem RD.tab {d : DS} {r : RS} (h : RD d r) (t : Nat → Int32) : RD d (rSTab r t) := h.cg (Ser_Tab r t) (Pag_Tab r t) (Use_Tab r t) (Nex_Tab r t) (Bef_Tab r t) (Byt_Tab r t) (Bad_Tab r t) (I_Tab r t)
theorem RD.man {d : DS} {r : RS} (h : RD d r) (t : Nat → Int32) : RD d (rSMan r t) := h.cg (Ser_Man r t) (Pag_Man r t) (Use_Man r t) (Nex_Man r t) (Bef_Man r t) (Byt_Man r t) (Bad_Man r t) (I_Man r t)
theorem RD.rea {d : DS} {r : RS} (h : RD d r) (t : Nat → Int32) : RD d (rSRea r t) := h.cg (Ser_Rea r t) (Pag_Rea r t) (Use_Rea r t) (Nex_Rea r t) (Bef_Rea r t) (Byt_Rea r t) (Bad_Rea r t) (I_Rea r t)
theorem RD.kepS {d : DS} {r : RS} (h : RD d r) (t : Nat → Int32) : RD d (rSKep r t) := h.cg (Ser_Kep r t) (Pag_Kep r t) (Use_Kep r t) (Nex_Kep r t) (Bef_Kep r t) (Byt_Kep r t) (Bad_Kep r t) (I_Kep r t)
theorem RD.repS {d : DS} {r : RS} (h : RD d r) (t : Nat → Int32) : RD d (rSRep r t) := h.cg (Ser_Rep r t) (Pag_Rep r t) (Use_Rep r t) (Nex_Rep r t) (Bef_Rep r t) (Byt_Rep r t) (Bad_Rep r t) (I_Rep r t)
theorem RD.wasS {d : DS} {r : RS} (h : RD d r) (t : Nat → Int32) : RD d (rSWas r t) := h.cg (Ser_Was r t) (Pag_Was r t) (Use_Was r t) (Nex_Was r t) (Bef_Was r t) (Byt_Was r t) (Bad_Was r t) (I_Was r t)
theorem RD.walS {d : DS} {r : RS} (h : RD d r) (t : Nat → Int32) : RD d (rSWal r t) := h.cg (Ser_Wal r t) (Pag_Wal r t) (Use_Wal r t) (Nex_Wal r t) (Bef_Wal r t) (Byt_Wal r t) (Bad_Wal r t) (I_Wal r t)
theorem RD.rchS {d : DS} {r : RS} (h : RD d r) (t : Nat → Int32) : RD d (rSRch r t) := h.cg (Ser_Rch r t) (Pag_Rch r t) (Use_Rch r t) (Nex_Rch r t) (Bef_Rch r t) (Byt_Rch r t) (Bad_Rch r t) (I_Rch r t)
theorem RD.rowS {d : DS} {r : RS} (h : RD d r) (t : Nat → Int32) : RD d (rSRow r t) := h.cg (Ser_Row r t) (Pag_Row r t) (Use_Row r t) (Nex_Row r t) (Bef_Row r t) (Byt_Row r t) (Bad_Row r t) (I_Row r t)
