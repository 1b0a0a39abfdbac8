/-! pure words of the reference's public methods -/
/-- round: the ranges made anew as they are looked at, what comes next, the differences -/
abbrev rnT : Type := rfT × (Nat × (Nat → Nat)) × dfT
def rf2 (kw hs : Nat → Bool) (kv : Nat → Int64) (rd : Nat → Int32) (x : rfT) : rfT := rfR kw hs kv rd 1 (rfR kw hs kv rd 0 x)
noncomputable def rnS (kw hs tr : Nat → Bool) (kv vw : Nat → Int64) (rd : Nat → Int32) (r : Nat) (x : rnT) : rnT :=
  (rf2 kw hs kv rd x.1, cond (eqN 32 (rf2 kw hs kv rd x.1).2.1 (rf2 kw hs kv rd x.1).2.1 (32 * r) (32 * (64 + r))) x.2 (if r < 32 then ((x.2.1.1 + 2, va_up (va_up x.2.1.2 x.2.1.1 (2 * r)) (x.2.1.1 + 1) (2 * r + 1)), x.2.2) else (x.2.1, cmL tr hs vw (8 * (r - 32)) x.2.2 8)))
noncomputable def rnL (kw hs tr : Nat → Bool) (kv vw : Nat → Int64) (rd : Nat → Int32) (lk : Nat → Nat) (x : rnT) (i : Nat) : rnT := it (fun j y => rnS kw hs tr kv vw rd (lk j) y) x i
def cpN (nx lk : Nat → Nat) (i : Nat) : Nat → Nat := it (fun j z => va_up z j (nx j)) lk i
/-- hash: the text's start, then its sum -/
def hsT (j k : Nat) (v : Int64) (tx : Nat → Int32) : Nat → Int32 := rowT v k 1 (va_up tx 0 (nI j &&& nI 255)) 8
def hsM (j k : Nat) (v : Int64) (tx : Nat → Int32) : Int32 := fldT (hsT j k v tx) 11
def mxT3 (k : Nat) (v : Int64) (tx : Nat → Int32) (i : Nat) : Nat → Int32 := it (fun j z => hsT j k v z) (hsT 3 k v tx) i
def mxS (th k : Nat) (v : Int64) (sg h3 : Int32) (T : Nat → Nat → Int32) (j : Nat) (x : tcT) : tcT :=
  (va_up x.1 (cel th j (hsM j k v (T j))) (x.1 (cel th j (hsM j k v (T j))) + sg), va_up x.2.1 (cel th j (hsM j k v (T j))) (x.2.1 (cel th j (hsM j k v (T j))) ^^^ nI k),
   va_up x.2.2.1 (cel th j (hsM j k v (T j))) (x.2.2.1 (cel th j (hsM j k v (T j))) ^^^ v), va_up x.2.2.2 (cel th j (hsM j k v (T j))) (x.2.2.2 (cel th j (hsM j k v (T j))) ^^^ h3))
def mxL (th k : Nat) (v : Int64) (sg : Int32) (tx : Nat → Int32) (x : tcT) (i : Nat) : tcT := it (mxS th k v sg (hsM 3 k v tx) (mxT3 k v tx)) x i
