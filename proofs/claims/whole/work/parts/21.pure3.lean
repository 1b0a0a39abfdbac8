/-! pure words of the reference: text, fold, digest -/
abbrev oM (a : Nat → Nat) (th wk ro lo ne di ta ce fo bt : Int32) : va_E := .inr (6, [.int th, .ref (a 2), .ref (a 3), .ref (a 4), .ref (a 5), .ref (a 6), .ref (a 7), .ref (a 8), .ref (a 9), .ref (a 10), .int wk, .int ro, .int lo, .ref (a 14), .int ne, .ref (a 16), .int di, .ref (a 18), .int ta, .int ce, .ref (a 21), .ref (a 22), .ref (a 23), .ref (a 24), .int fo, .ref (a 26), .ref (a 27), .ref (a 28), .int bt, .ref (a 30), .ref (a 31), .ref (a 32), .ref (a 33), .ref (a 34)])
def wiN (x lo hi : Int32) : Bool := !decide (x < lo) && !decide (hi < x)
def mL (x : Int32) (n : Nat) : Int32 := (x <<< (nI n &&& 31)) ||| us x (nI (32 - n))
def mR (x : Int32) (n : Nat) : Int32 := us x (nI n) ||| (x <<< (nI (32 - n) &&& 31))
def shB (v : Int64) (j : Nat) : Int32 := Int64.toInt32 (v >>> (Int32.toInt64 (nI (56 - 8 * j)) &&& 63)) &&& nI 255
def rowT (v : Int64) (k bt : Nat) (tx : Nat → Int32) (i : Nat) : Nat → Int32 := it (fun j z => va_up z (bt + 1 + 1 + j) (shB v j)) (va_up (va_up tx bt (nI (k / 64) &&& nI 255)) (bt + 1) (nI (k % 64 + 1) &&& nI 255)) i
def fldT (tx : Nat → Int32) (n : Nat) : Int32 := it (fun i x => mL (x ^^^ tx i) 7 * 668265263) (nI 0) n
def ms0 (x : Int32) : Int32 := mR x 7 ^^^ mR x 18 ^^^ us x (nI 3)
def ms1 (x : Int32) : Int32 := mR x 17 ^^^ mR x 19 ^^^ us x (nI 10)
def mS1 (x : Int32) : Int32 := mR x 6 ^^^ mR x 11 ^^^ mR x 25
def mS0 (x : Int32) : Int32 := mR x 2 ^^^ mR x 13 ^^^ mR x 22
def wdB (tx : Nat → Int32) (b : Nat) : Int32 := (((tx b <<< (nI 24 &&& 31)) ||| (tx (b + 1) <<< (nI 16 &&& 31))) ||| (tx (b + 2) <<< (nI 8 &&& 31))) ||| tx (b + 3)
def wdI (tx : Nat → Int32) (f : Nat) (wo : Nat → Int32) (i : Nat) : Nat → Int32 := it (fun t z => va_up z t (wdB tx (f + 4 * t))) wo i
def sprM (j : Nat) (z : Nat → Int32) : Nat → Int32 := va_up z (16 + j) (ms1 (z (16 + j - 2)) + z (16 + j - 7) + ms0 (z (16 + j - 15)) + z (16 + j - 16))
def cpW (ch wr : Nat → Int32) (i : Nat) : Nat → Int32 := it (fun k z => va_up z k (ch k)) wr i
def mOne (rd W : Nat → Int32) (t : Nat) (z : Nat → Int32) : Int32 := z 7 + mS1 (z 4) + ((z 4 &&& z 5) ^^^ ((z 4 ^^^ (-1)) &&& z 6)) + rd t + W t
def mTwo (z : Nat → Int32) : Int32 := mS0 (z 0) + (((z 0 &&& z 1) ^^^ (z 0 &&& z 2)) ^^^ (z 1 &&& z 2))
def shf (z : Nat → Int32) (i : Nat) : Nat → Int32 := it (fun i q => va_up q (7 - i) (q (7 - i - 1))) z i
def mRd (rd W : Nat → Int32) (t : Nat) (z : Nat → Int32) : Nat → Int32 := va_up (va_up (shf z 7) 4 (shf z 7 4 + mOne rd W t z)) 0 (mOne rd W t z + mTwo z)
abbrev bkT : Type := (Nat → Int32) × (Nat → Int32) × (Nat → Int32)
def bkW (tx : Nat → Int32) (f : Nat) (wo : Nat → Int32) : Nat → Int32 := it sprM (wdI tx f wo 16) 48
def bkR (tx rd : Nat → Int32) (f : Nat) (x : bkT) : Nat → Int32 := it (mRd rd (bkW tx f x.2.1)) (cpW x.1 x.2.2 8) 64
def bkB (tx rd : Nat → Int32) (f : Nat) (x : bkT) : bkT := (shaAdd x.1 (bkR tx rd f x), bkW tx f x.2.1, bkR tx rd f x)
def pad1 (bt : Nat) (tx : Nat → Int32) (i : Nat) : Nat → Int32 := it (fun i z => va_up z (bt + 1 + i) (nI 0 &&& nI 255)) (va_up tx bt (nI 128 &&& nI 255)) i
def pad2 (bt : Nat) (tx : Nat → Int32) (i : Nat) : Nat → Int32 := it (fun i z => va_up z (bt + 1 + zN bt + i) (nI 0 &&& nI 255)) (pad1 bt tx (zN bt)) i
def padT (bt : Nat) (tx : Nat → Int32) : Nat → Int32 := va_up (va_up (pad2 bt tx 6) (bt + 1 + zN bt + 6) ((nI (8 * bt) >>> (nI 8 &&& 31)) &&& nI 255)) (bt + 1 + zN bt + 6 + 1) (nI (8 * bt) &&& nI 255)
def chI (ch : Nat → Int32) : Nat → Int32 := it (fun k z => va_up z k (sha_H k)) ch 8
def bkN (bt : Nat) : Nat := (bt + 1 + zN bt + 6 + 1 + 1) / 64
def shaM (tx rd : Nat → Int32) (x : bkT) (i : Nat) : bkT := it (fun j y => bkB tx rd (64 * j) y) x i
def dgB (p : Nat) (dg ch : Nat → Int32) (i : Nat) : Nat → Int32 := it (fun k z => va_up z (p + k) ((ch (k / 4) >>> (nI (24 - 8 * (k % 4)) &&& 31)) &&& nI 255)) dg i
/-- text and digest words behind digestTo -/
def dgM (rd : Nat → Int32) (bt : Nat) (tx : Nat → Int32) (x : bkT) : bkT := shaM (padT bt tx) rd (chI x.1, x.2) (bkN bt)
def nD (r : Nat) : Nat := if 32 ≤ r then 0 else if 16 ≤ r then 1 else if 8 ≤ r then 2 else if 4 ≤ r then 3 else if 2 ≤ r then 4 else 5
def dblF (r d : Nat) : Nat := it (fun _ x => 2 * x) r d
def dblL (r d : Nat) : Nat := it (fun _ x => 2 * x + 1) r d
theorem dbl_ok : ∀ r, r < 64 → 1 ≤ r → (∀ d, d < nD r → dblF r d < 32) ∧ 32 ≤ dblF r (nD r) ∧ dblF r (nD r) < 64 := by decide +kernel
theorem dbp_ok : ∀ r, r < 64 → 1 ≤ r → (∀ d, d < nD r → dblL r d < 32) ∧ 32 ≤ dblL r (nD r) ∧ dblL r (nD r) < 64 ∧ dblF r (nD r) ≤ dblL r (nD r) := by decide +kernel
def fLf (r : Nat) : Nat := dblF r (nD r)
def lLf (r : Nat) : Nat := dblL r (nD r)
theorem nI_dec8 {j : Nat} (h : j < 8) : nI (64 - 8 * j) - 8 = nI (56 - 8 * j) := by
  rw [show (8 : Int32) = nI 8 from rfl, pk_sub (by omega), show 64 - 8 * j - 8 = 56 - 8 * j by omega]
theorem nI_dec4 {j : Nat} (h : j < 4) : nI (32 - 8 * j) - 8 = nI (24 - 8 * j) := by
  rw [show (8 : Int32) = nI 8 from rfl, pk_sub (by omega), show 32 - 8 * j - 8 = 24 - 8 * j by omega]
/-- which rows of the reference count, by their place in a side -/
def qM (kw hs : Nat → Bool) (sd k : Nat) : Bool := kw (256 * sd + k) && (hs (k / 64) && hs (4 + k / 64))
abbrev txT : Type := Nat × (Nat → Int32)
def lfT (kw hs : Nat → Bool) (vw : Nat → Int64) (sd b : Nat) (tx : Nat → Int32) (i : Nat) : txT := it (fun j x => cond (qM kw hs sd (b + j)) (x.1 + 1 + 1 + 8, rowT (vw (256 * sd + (b + j))) (b + j) x.1 x.2 8) x) (0, tx) i
theorem lfT_t {kw hs : Nat → Bool} {vw : Nat → Int64} {sd b j : Nat} {tx : Nat → Int32} (h : qM kw hs sd (b + j) = true) : lfT kw hs vw sd b tx (j + 1) = ((lfT kw hs vw sd b tx j).1 + 1 + 1 + 8, rowT (vw (256 * sd + (b + j))) (b + j) (lfT kw hs vw sd b tx j).1 (lfT kw hs vw sd b tx j).2 8) := by
  show cond (qM kw hs sd (b + j)) _ _ = _
  rw [h]; rfl
theorem lfT_f {kw hs : Nat → Bool} {vw : Nat → Int64} {sd b j : Nat} {tx : Nat → Int32} (h : qM kw hs sd (b + j) = false) : lfT kw hs vw sd b tx (j + 1) = lfT kw hs vw sd b tx j := by
  show cond (qM kw hs sd (b + j)) _ _ = _
  rw [h]; rfl
theorem lfT_le (kw hs : Nat → Bool) (vw : Nat → Int64) (sd b : Nat) (tx : Nat → Int32) (i : Nat) : (lfT kw hs vw sd b tx i).1 ≤ 10 * i := by
  induction i with
  | zero => exact Nat.le_refl 0
  | succ i ih =>
    cases h : qM kw hs sd (b + i)
    · rw [lfT_f h]; omega
    · rw [lfT_t h]; show _ + 1 + 1 + 8 ≤ _; omega
theorem zN_ok (bt : Nat) : zN bt < 64 ∧ (bt + 1 + zN bt) % 64 = 56 ∧ ∀ i, i < zN bt → (bt + 1 + i) % 64 ≠ 56 := by
  unfold zN
  exact ⟨by omega, by omega, fun i h => by omega⟩
