/-! pure words of the reference: ranges made anew, rows learned -/
/-- digest, sum, text, chain and its like -/
abbrev mkT : Type := (Nat → Int32) × (Nat → Int32) × txT × bkT
def z32 (dg : Nat → Int32) (k i : Nat) : Nat → Int32 := it (fun b z => va_up z (32 * k + b) (nI 0)) dg i
def inT (dg : Nat → Int32) (lw : Nat) (tx : Nat → Int32) (i : Nat) : Nat → Int32 := it (fun b z => va_up z b (dg (32 * lw + b) &&& nI 255)) tx i
def smT1 (v : Int32) (o : Nat) (tx : Nat → Int32) (i : Nat) : Nat → Int32 := it (fun j z => va_up z (o + j) ((v >>> (nI (24 - 8 * j) &&& 31)) &&& nI 255)) tx i
def smT (sm : Nat → Int32) (lw : Nat) (tx : Nat → Int32) (i : Nat) : Nat → Int32 := it (fun j z => smT1 (sm (lw + j)) (4 * j) z 4) tx i
/-- makeLeaf: the text of a leaf's rows, its digest at q -/
def mlE (kw hs : Nat → Bool) (kv : Nat → Int64) (rd : Nat → Int32) (sd r q : Nat) (dg : Nat → Int32) (tx : Nat → Int32) (b : bkT) : (Nat → Int32) × txT × bkT :=
  (dgB q dg (dgM rd (lfT kw hs kv sd (8 * (r - 32)) tx 8).1 (lfT kw hs kv sd (8 * (r - 32)) tx 8).2 b).1 32,
   ((lfT kw hs kv sd (8 * (r - 32)) tx 8).1 + 1 + zN (lfT kw hs kv sd (8 * (r - 32)) tx 8).1 + 6 + 1 + 1, padT (lfT kw hs kv sd (8 * (r - 32)) tx 8).1 (lfT kw hs kv sd (8 * (r - 32)) tx 8).2),
   dgM rd (lfT kw hs kv sd (8 * (r - 32)) tx 8).1 (lfT kw hs kv sd (8 * (r - 32)) tx 8).2 b)
def mnN (kw hs : Nat → Bool) (sd r : Nat) : Nat := cntR (qM kw hs sd) (8 * (fLf r - 32)) (8 * (lLf r - 32) + 8 - 8 * (fLf r - 32))
def mkL (kw hs : Nat → Bool) (kv : Nat → Int64) (rd : Nat → Int32) (sd r : Nat) (x : mkT) : mkT :=
  ((mlE kw hs kv rd sd r (32 * (64 * sd + r)) (z32 x.1 (64 * sd + r) 32) x.2.2.1.2 x.2.2.2).1,
   va_up (va_up x.2.1 (64 * sd + r) (nI 0)) (64 * sd + r) (fldT (mlE kw hs kv rd sd r (32 * (64 * sd + r)) (z32 x.1 (64 * sd + r) 32) x.2.2.1.2 x.2.2.2).2.1.2 (10 * mnN kw hs sd r)),
   (10 * mnN kw hs sd r, (mlE kw hs kv rd sd r (32 * (64 * sd + r)) (z32 x.1 (64 * sd + r) 32) x.2.2.1.2 x.2.2.2).2.1.2),
   (mlE kw hs kv rd sd r (32 * (64 * sd + r)) (z32 x.1 (64 * sd + r) 32) x.2.2.1.2 x.2.2.2).2.2)
def miT (sd r : Nat) (x : mkT) : Nat → Int32 := inT (z32 x.1 (64 * sd + r) 32) (64 * sd + 2 * r) x.2.2.1.2 64
def miD (rd : Nat → Int32) (sd r : Nat) (x : mkT) : bkT := dgM rd 64 (miT sd r x) x.2.2.2
def miS (sd r : Nat) (x : mkT) : Nat → Int32 := smT (va_up x.2.1 (64 * sd + r) (nI 0)) (64 * sd + 2 * r) (padT 64 (miT sd r x)) 2
def mkI (rd : Nat → Int32) (sd r : Nat) (x : mkT) : mkT :=
  (dgB (32 * (64 * sd + r)) (z32 x.1 (64 * sd + r) 32) (miD rd sd r x).1 32, va_up (va_up x.2.1 (64 * sd + r) (nI 0)) (64 * sd + r) (fldT (miS sd r x) 8), (8, miS sd r x), miD rd sd r x)
def mkE (kw hs : Nat → Bool) (kv : Nat → Int64) (rd : Nat → Int32) (sd r : Nat) (x : mkT) : mkT :=
  if mnN kw hs sd r = 0 then (z32 x.1 (64 * sd + r) 32, va_up x.2.1 (64 * sd + r) (nI 0), x.2.2) else if r < 32 then mkI rd sd r x else mkL kw hs kv rd sd r x
def rfL (kw hs : Nat → Bool) (kv : Nat → Int64) (rd : Nat → Int32) (sd : Nat) (x : mkT) (i : Nat) : mkT := it (fun j y => mkE kw hs kv rd sd (63 - j) y) x i
abbrev rfT : Type := (Nat → Bool) × mkT
def rfR (kw hs : Nat → Bool) (kv : Nat → Int64) (rd : Nat → Int32) (sd : Nat) (x : rfT) : rfT := (va_up x.1 sd true, cond (x.1 sd) x.2 (rfL kw hs kv rd sd x.2 63))
def lnK (tr kw : Nat → Bool) (b i : Nat) : Nat → Bool := it (fun j z => va_up z (b + j) (tr (b + j))) kw i
def lnV (vw kv : Nat → Int64) (b i : Nat) : Nat → Int64 := it (fun j z => va_up z (b + j) (vw (b + j))) kv i
theorem mnN_le (kw hs : Nat → Bool) (sd r : Nat) (h : 32 ≤ r) (h2 : r < 64) : mnN kw hs sd r ≤ 8 := by
  have e1 : fLf r = r := by unfold fLf nD; rw [if_pos h]; rfl
  have e2 : lLf r = r := by unfold lLf nD; rw [if_pos h]; rfl
  unfold mnN
  rw [e1, e2]
  have := cntR_le (qM kw hs sd) (8 * (r - 32)) (8 * (r - 32) + 8 - 8 * (r - 32))
  omega
theorem mnN_lt (kw hs : Nat → Bool) (sd r : Nat) (h1 : 1 ≤ r) (h2 : r < 64) : mnN kw hs sd r < 2 ^ 20 := by
  have hd := dbl_ok r h2 h1
  have he := dbp_ok r h2 h1
  have := cntR_le (qM kw hs sd) (8 * (fLf r - 32)) (8 * (lLf r - 32) + 8 - 8 * (fLf r - 32))
  unfold mnN
  have h3 : lLf r < 64 := he.2.2.1
  omega
theorem rfR_t {kw hs : Nat → Bool} {kv : Nat → Int64} {rd : Nat → Int32} {sd : Nat} {f : Nat → Bool} {y : mkT} (h : f sd = true) : rfR kw hs kv rd sd (f, y) = (f, y) := by
  show (va_up f sd true, cond (f sd) y (rfL kw hs kv rd sd y 63)) = _
  rw [va_up_id h, h, cond_true]
theorem rfR_f {kw hs : Nat → Bool} {kv : Nat → Int64} {rd : Nat → Int32} {sd : Nat} {f : Nat → Bool} {y : mkT} (h : f sd = false) : rfR kw hs kv rd sd (f, y) = (va_up f sd true, rfL kw hs kv rd sd y 63) := by
  show (va_up f sd true, cond (f sd) y (rfL kw hs kv rd sd y 63)) = _
  rw [h, cond_false]
theorem wiN_n {x lo hi : Nat} (h1 : lo ≤ x) (h2 : x ≤ hi) (h3 : hi < 2 ^ 31) : wiN (nI x) (nI lo) (nI hi) = true := by
  unfold wiN
  rw [decide_eq_false (fun h => by have := (nI_ltI (by omega) (by omega)).mp h; omega), decide_eq_false (fun h => by have := (nI_ltI (by omega) (by omega)).mp h; omega)]
  rfl
theorem wiN_of {x : Int32} {a b : Nat} (ha : a < 2 ^ 31) (hb : b < 2 ^ 31) (h : wiN x (nI a) (nI b) = true) : ∃ r, a ≤ r ∧ r ≤ b ∧ x = nI r := by
  unfold wiN at h
  simp only [Bool.and_eq_true, Bool.not_eq_true', decide_eq_false_iff_not] at h
  have h0 : ¬ x < 0 := fun q => h.1 (Int32.lt_of_lt_of_le q (nI_pos' ha))
  obtain ⟨r, hr, rfl⟩ := nI_of h0
  exact ⟨r, Nat.le_of_not_lt (fun q => h.1 ((nI_ltI hr ha).mpr q)), Nat.le_of_not_lt (fun q => h.2 ((nI_ltI hb hr).mpr q)), rfl⟩
def isPl (x y z : Int32) : Bool := wiN x (nI 0) (nI 1) && wiN y (nI 0) (nI 3) && wiN z (nI 1) (nI 64)
theorem isPl_n {sd n u : Nat} (h1 : sd < 2) (h2 : n < 4) (h3 : 1 ≤ u) (h4 : u ≤ 64) : (wiN (nI sd) (nI 0) (nI 1) && wiN (nI n) (nI 0) (nI 3) && wiN (nI u) (nI 1) (nI 64)) = true := by
  rw [wiN_n (by omega) (by omega) (by decide), wiN_n (by omega) (by omega) (by decide), wiN_n h3 h4 (by decide)]
  rfl
theorem nI_nm1 {n : Nat} (h : n < 2 ^ 31) : ¬ nI n = -1 := fun q => nI_pos h (by rw [q]; decide)
def difV (wk : Bool) (di : Nat) (df : Nat → Int32) (x y : Int32) : Int32 := if (wk && wiN x (nI 0) (nI di - nI 1) && wiN y (nI 0) (nI 2)) = true then df (3 * x.toNatClampNeg + y.toNatClampNeg) else -1
theorem wiN_ix {x : Int32} {d : Nat} (hd : d < 2 ^ 31) (h : wiN x (nI 0) (nI d - nI 1) = true) : ∃ r, r < d ∧ x = nI r := by
  cases d with
  | zero =>
    unfold wiN at h
    simp only [Bool.and_eq_true, Bool.not_eq_true', decide_eq_false_iff_not] at h
    have h0 : ¬ x < 0 := fun q => h.1 q
    obtain ⟨r, hr, rfl⟩ := nI_of h0
    refine absurd ?_ h.2
    have : nI 0 - nI 1 = (-1 : Int32) := by decide
    rw [this]
    exact Int32.lt_of_lt_of_le (by decide) (nI_pos' hr)
  | succ d =>
    rw [pk_sub (show 1 ≤ d + 1 by omega), show d + 1 - 1 = d by omega] at h
    obtain ⟨r, -, h2, h3⟩ := wiN_of (by decide) (by omega) h
    exact ⟨r, by omega, h3⟩
theorem wiN_ixn {r d : Nat} (hd : d < 2 ^ 31) (h : r < d) : wiN (nI r) (nI 0) (nI d - nI 1) = true := by
  obtain ⟨d, rfl⟩ : ∃ e, d = e + 1 := ⟨d - 1, by omega⟩
  rw [pk_sub (show 1 ≤ d + 1 by omega), show d + 1 - 1 = d by omega]
  exact wiN_n (by omega) (by omega) (by omega)
abbrev dfT : Type := Nat × (Nat → Int32)
def tlD (kn k : Nat) (x : dfT) : dfT := (x.1 + 1, va_up (va_up (va_up x.2 (3 * x.1) (nI kn)) (3 * x.1 + 1) (nI (k / 64))) (3 * x.1 + 2) (nI (k % 64 + 1)))
def cmS (q a b d : Bool) (k : Nat) (x : dfT) : dfT := cond q (cond (a && !b) (tlD 0 k x) (cond (b && !a) (tlD 1 k x) (cond (a && b && d) (tlD 2 k x) x))) x
def cmL (tr hs : Nat → Bool) (vw : Nat → Int64) (b : Nat) (x : dfT) (i : Nat) : dfT := it (fun j y => cmS (hs ((b + j) / 64) && hs (4 + (b + j) / 64)) (tr (b + j)) (tr (256 + (b + j))) (neL (vw (b + j)) (vw (256 + (b + j)))) (b + j) y) x i
theorem cmS_q {q a b d : Bool} {k : Nat} {x : dfT} (h : q = false) : cmS q a b d k x = x := by subst h; rfl
theorem cmS_0 {q a b d : Bool} {k : Nat} {x : dfT} (h : q = true) (ha : a = true) (hb : b = false) : cmS q a b d k x = tlD 0 k x := by subst h ha hb; rfl
theorem cmS_1 {q a b d : Bool} {k : Nat} {x : dfT} (h : q = true) (ha : a = false) (hb : b = true) : cmS q a b d k x = tlD 1 k x := by subst h ha hb; rfl
theorem cmS_2 {q a b d : Bool} {k : Nat} {x : dfT} (h : q = true) (ha : a = true) (hb : b = true) (hd : d = true) : cmS q a b d k x = tlD 2 k x := by subst h ha hb hd; rfl
theorem cmS_3 {q a b d : Bool} {k : Nat} {x : dfT} (h : q = true) (ha : a = true) (hb : b = true) (hd : d = false) : cmS q a b d k x = x := by subst h ha hb hd; rfl
theorem cmS_4 {q a b d : Bool} {k : Nat} {x : dfT} (h : q = true) (ha : a = false) (hb : b = false) : cmS q a b d k x = x := by subst h ha hb; rfl
theorem cmS_le (q a b d : Bool) (k : Nat) (x : dfT) : (cmS q a b d k x).1 ≤ x.1 + 1 := by
  cases q <;> cases a <;> cases b <;> cases d <;> first | exact Nat.le_refl _ | exact Nat.le_succ _
theorem cmL_le (tr hs : Nat → Bool) (vw : Nat → Int64) (b : Nat) (x : dfT) (i : Nat) : (cmL tr hs vw b x i).1 ≤ x.1 + i := by
  induction i with
  | zero => exact Nat.le_refl _
  | succ i ih =>
    have := cmS_le (hs ((b + i) / 64) && hs (4 + (b + i) / 64)) (tr (b + i)) (tr (256 + (b + i))) (neL (vw (b + i)) (vw (256 + (b + i)))) (b + i) (cmL tr hs vw b x i)
    show (cmS (hs ((b + i) / 64) && hs (4 + (b + i) / 64)) (tr (b + i)) (tr (256 + (b + i))) (neL (vw (b + i)) (vw (256 + (b + i)))) (b + i) (cmL tr hs vw b x i)).1 ≤ _
    omega
noncomputable def eqN (n : Nat) (f h : Nat → Int32) (b d : Nat) : Bool := @decide (∀ j, j < n → f (b + j) = h (d + j)) (Classical.propDecidable _)
theorem eqN_t {n : Nat} {f h : Nat → Int32} {b d : Nat} (q : ∀ j, j < n → f (b + j) = h (d + j)) : eqN n f h b d = true := @decide_eq_true _ (Classical.propDecidable _) q
theorem eqN_f {n : Nat} {f h : Nat → Int32} {b d j : Nat} (hj : j < n) (q : ¬ f (b + j) = h (d + j)) : eqN n f h b d = false := @decide_eq_false _ (Classical.propDecidable _) (fun z => q (z j hj))
theorem eqN_p {n : Nat} {f h : Nat → Int32} {b d : Nat} (q : eqN n f h b d = true) : ∀ j, j < n → f (b + j) = h (d + j) := @of_decide_eq_true _ (Classical.propDecidable _) q
theorem eqN_n {n : Nat} {f h : Nat → Int32} {b d : Nat} (q : eqN n f h b d = false) : ¬ ∀ j, j < n → f (b + j) = h (d + j) := @of_decide_eq_false _ (Classical.propDecidable _) q
