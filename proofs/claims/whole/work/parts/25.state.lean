/-! the class's state, a tuple a class; the heap out of it -/
abbrev DS : Type := (Nat → Int32) × (Nat → Int32) × (Nat → Int32) × Int32 × Int32 × Int32 × Int32
def dCells (z : DS) : (Nat → Int32) := z.1
def dEarl (z : DS) : (Nat → Int32) := z.2.1
def dUnr (z : DS) : (Nat → Int32) := z.2.2.1
def dMis (z : DS) : Int32 := z.2.2.2.1
def dWri (z : DS) : Int32 := z.2.2.2.2.1
def dChg (z : DS) : Int32 := z.2.2.2.2.2.1
def dPow (z : DS) : Int32 := z.2.2.2.2.2.2
def dSCells (z : DS) (v : (Nat → Int32)) : DS := (v, z.2.1, z.2.2.1, z.2.2.2.1, z.2.2.2.2.1, z.2.2.2.2.2.1, z.2.2.2.2.2.2)
def dSEarl (z : DS) (v : (Nat → Int32)) : DS := (z.1, v, z.2.2.1, z.2.2.2.1, z.2.2.2.2.1, z.2.2.2.2.2.1, z.2.2.2.2.2.2)
def dSUnr (z : DS) (v : (Nat → Int32)) : DS := (z.1, z.2.1, v, z.2.2.2.1, z.2.2.2.2.1, z.2.2.2.2.2.1, z.2.2.2.2.2.2)
def dSMis (z : DS) (v : Int32) : DS := (z.1, z.2.1, z.2.2.1, v, z.2.2.2.2.1, z.2.2.2.2.2.1, z.2.2.2.2.2.2)
def dSWri (z : DS) (v : Int32) : DS := (z.1, z.2.1, z.2.2.1, z.2.2.2.1, v, z.2.2.2.2.2.1, z.2.2.2.2.2.2)
def dSChg (z : DS) (v : Int32) : DS := (z.1, z.2.1, z.2.2.1, z.2.2.2.1, z.2.2.2.2.1, v, z.2.2.2.2.2.2)
def dSPow (z : DS) (v : Int32) : DS := (z.1, z.2.1, z.2.2.1, z.2.2.2.1, z.2.2.2.2.1, z.2.2.2.2.2.1, v)
abbrev FS : Type := (Nat → Int32)
def fRem (z : FS) : (Nat → Int32) := z
def fSRem (z : FS) (v : (Nat → Int32)) : FS := v
abbrev WS : Type := Int32 × Int32 × Int32 × Int32
def wSec (z : WS) : Int32 := z.1
def wSlo (z : WS) : Int32 := z.2.1
def wHSe (z : WS) : Int32 := z.2.2.1
def wHSl (z : WS) : Int32 := z.2.2.2
def wSSec (z : WS) (v : Int32) : WS := (v, z.2.1, z.2.2.1, z.2.2.2)
def wSSlo (z : WS) (v : Int32) : WS := (z.1, v, z.2.2.1, z.2.2.2)
def wSHSe (z : WS) (v : Int32) : WS := (z.1, z.2.1, v, z.2.2.2)
def wSHSl (z : WS) (v : Int32) : WS := (z.1, z.2.1, z.2.2.1, v)
abbrev MS : Type := Int32 × Int32 × Int32 × Int64 × Int64
def mPag (z : MS) : Int32 := z.1
def mFir (z : MS) : Int32 := z.2.1
def mSnd (z : MS) : Int32 := z.2.2.1
def mTak (z : MS) : Int64 := z.2.2.2.1
def mFre (z : MS) : Int64 := z.2.2.2.2
def mSPag (z : MS) (v : Int32) : MS := (v, z.2.1, z.2.2.1, z.2.2.2.1, z.2.2.2.2)
def mSFir (z : MS) (v : Int32) : MS := (z.1, v, z.2.2.1, z.2.2.2.1, z.2.2.2.2)
def mSSnd (z : MS) (v : Int32) : MS := (z.1, z.2.1, v, z.2.2.2.1, z.2.2.2.2)
def mSTak (z : MS) (v : Int64) : MS := (z.1, z.2.1, z.2.2.1, v, z.2.2.2.2)
def mSFre (z : MS) (v : Int64) : MS := (z.1, z.2.1, z.2.2.1, z.2.2.2.1, v)
abbrev SS : Type := (Nat → Int32) × Int32 × Int32 × Int32 × Int64
def sRes (z : SS) : (Nat → Int32) := z.1
def sLos (z : SS) : Int32 := z.2.1
def sMad (z : SS) : Int32 := z.2.2.1
def sAdo (z : SS) : Int32 := z.2.2.2.1
def sRea (z : SS) : Int64 := z.2.2.2.2
def sSRes (z : SS) (v : (Nat → Int32)) : SS := (v, z.2.1, z.2.2.1, z.2.2.2.1, z.2.2.2.2)
def sSLos (z : SS) (v : Int32) : SS := (z.1, v, z.2.2.1, z.2.2.2.1, z.2.2.2.2)
def sSMad (z : SS) (v : Int32) : SS := (z.1, z.2.1, v, z.2.2.2.1, z.2.2.2.2)
def sSAdo (z : SS) (v : Int32) : SS := (z.1, z.2.1, z.2.2.1, v, z.2.2.2.2)
def sSRea (z : SS) (v : Int64) : SS := (z.1, z.2.1, z.2.2.1, z.2.2.2.1, v)
abbrev GS : Type := (Nat → Int32)
def gGat (z : GS) : (Nat → Int32) := z
def gSGat (z : GS) (v : (Nat → Int32)) : GS := v
def eLV : mn_E := .inr (0, [.ref 1, .ref 5, .ref 7, .ref 8, .ref 9, .ref 11])
def HD (z : DS) (tl : List mn_E) : List mn_E := .inr (1, [.ref 2, .ref 3, .ref 4, .int (dMis z), .int (dWri z), .int (dChg z), .int (dPow z)]) :: .inl (0, 520, .inl (dCells z)) :: .inl (0, 520, .inl (dEarl z)) :: .inl (1, 40, .inl (dUnr z)) :: tl
def HF (z : FS) (tl : List mn_E) : List mn_E := .inr (2, [.ref 1, .ref 6]) :: .inl (0, 61, .inl (fRem z)) :: tl
def HW (z : WS) (tl : List mn_E) : List mn_E := .inr (3, [.ref 1, .ref 5, .int (wSec z), .int (wSlo z), .int (wHSe z), .int (wHSl z)]) :: tl
def HM (z : MS) (tl : List mn_E) : List mn_E := .inr (4, [.ref 1, .ref 5, .int (mPag z), .int (mFir z), .int (mSnd z), .long (mTak z), .long (mFre z)]) :: tl
def HS (z : SS) (tl : List mn_E) : List mn_E := .inr (5, [.ref 1, .ref 10, .int (sLos z), .int (sMad z), .int (sAdo z), .long (sRea z)]) :: .inl (0, 5, .inl (sRes z)) :: tl
def HG (z : GS) (tl : List mn_E) : List mn_E := .inl (0, 40, .inl (gGat z)) :: tl
theorem len1 {a b : List mn_E} {x : mn_E} (h : a.length = b.length) : (x :: a).length = (x :: b).length := congrArg (· + 1) h
theorem lenHD {z y : DS} {a b : List mn_E} (h : a.length = b.length) : (HD z a).length = (HD y b).length := congrArg (· + 4) h
theorem lenHF {z y : FS} {a b : List mn_E} (h : a.length = b.length) : (HF z a).length = (HF y b).length := congrArg (· + 2) h
theorem lenHW {z y : WS} {a b : List mn_E} (h : a.length = b.length) : (HW z a).length = (HW y b).length := congrArg (· + 1) h
theorem lenHM {z y : MS} {a b : List mn_E} (h : a.length = b.length) : (HM z a).length = (HM y b).length := congrArg (· + 1) h
theorem lenHS {z y : SS} {a b : List mn_E} (h : a.length = b.length) : (HS z a).length = (HS y b).length := congrArg (· + 2) h
theorem lenHG {z y : GS} {a b : List mn_E} (h : a.length = b.length) : (HG z a).length = (HG y b).length := congrArg (· + 1) h
def gd_up : List String := ["java/lang/RuntimeException", "java/lang/Exception"]
