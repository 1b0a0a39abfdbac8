/-! words of the reference's table, broken, anew, leaf, round -/
theorem pur_atn {x : tcT} {n : Nat} (h : fpN (pur x) n < n) : pur x (fpN (pur x) n) = true := by
  rcases fpN_cases (pur x) n with h1 | h1
  · omega
  · exact h1.2.1
noncomputable def tabV (n : Nat) (x : pmT) : Int32 := cond (isz x.1.1 n) (nI x.1.2.2.2.2) ((-1) - nI x.1.2.2.2.2)
def zc63 (co : Nat → Int32) : Nat → Int32 := it (fun i z => va_up z i (nI 0)) co 63
def zl63 (vl : Nat → Int64) : Nat → Int64 := it (fun i z => va_up z i (0 : Int64)) vl 63
/-- the table, filled -/
def tbF (n : Nat) (tr hs : Nat → Bool) (vw : Nat → Int64) (co ky : Nat → Int32) (vl : Nat → Int64) (mk : Nat → Int32) (y : txT) : tbT := tbL (n / 3) tr hs vw ((zc63 co, zc63 ky, zl63 vl, zc63 mk), y) 512
noncomputable def pm0 (n : Nat) (x : tbT) (fs : Nat → Int32) (fl : Nat → Nat) (fv : Nat → Int64) : pmT := ((x.1, fs, fl, fv, 0), puT x.1 x.2 (puE x.1 n))
/-- the spare place of a side -/
def zsp (sd : Nat) (dg : Nat → Int32) (i : Nat) : Nat → Int32 := it (fun b z => va_up z (2048 * sd + b) (nI 0)) dg i
def itA (tr hs : Nat → Bool) (vw : Nat → Int64) (rd : Nat → Int32) (sd r : Nat) (x : rfT) : rfT :=
  if mnN tr hs sd r = 0 then (x.1, zsp sd x.2.1 32, x.2.2) else (x.1, (mlE tr hs vw rd sd r (2048 * sd) (zsp sd x.2.1 32) x.2.2.2.1.2 x.2.2.2.2).1, x.2.2.1, (mlE tr hs vw rd sd r (2048 * sd) (zsp sd x.2.1 32) x.2.2.2.1.2 x.2.2.2.2).2)
def itE (kw hs tr : Nat → Bool) (kv vw : Nat → Int64) (rd : Nat → Int32) (sd r : Nat) (x : rfT) : rfT := itA tr hs vw rd sd r (rfR kw hs kv rd sd x)
def btL (kw hs tr : Nat → Bool) (kv vw : Nat → Int64) (rd : Nat → Int32) (sd : Nat) (x : rfT) (i : Nat) : rfT := it (fun j y => itE kw hs tr kv vw rd sd (32 + j) y) x i
noncomputable def btQ (kw hs tr : Nat → Bool) (kv vw : Nat → Int64) (rd : Nat → Int32) (sd : Nat) (x : rfT) (j : Nat) : Bool := !eqN 32 (btL kw hs tr kv vw rd sd x (j + 1)).2.1 (btL kw hs tr kv vw rd sd x (j + 1)).2.1 (2048 * sd) (32 * (64 * sd + (32 + j)))
noncomputable def btE (P : Nat → Bool) : Nat := if fpN P 32 < 32 then fpN P 32 + 1 else 32
noncomputable def btV (P : Nat → Bool) : Int32 := if fpN P 32 < 32 then nI (32 + fpN P 32) else -1
def old2 (dg : Nat → Int32) (sd : Nat) (ol : Nat → Int32) (i : Nat) : Nat → Int32 := it (fun k z => va_up z k (dg (2048 * sd + k))) ol i
noncomputable def alN (f h : Nat → Int32) (b d i : Nat) : Bool := it (fun j x => x && @decide (f (b + j) = h (d + j)) (Classical.propDecidable _)) true i
theorem alN_f {f h : Nat → Int32} {b d j : Nat} (q : alN f h b d j = false) : alN f h b d (j + 1) = false := by
  show (alN f h b d j && _) = false
  rw [q]; rfl
theorem alN_n {f h : Nat → Int32} {b d j : Nat} (q : ¬ f (b + j) = h (d + j)) : alN f h b d (j + 1) = false := by
  show (alN f h b d j && @decide (f (b + j) = h (d + j)) (Classical.propDecidable _)) = false
  rw [@decide_eq_false _ (Classical.propDecidable _) q, Bool.and_false]
theorem alN_t {f h : Nat → Int32} {b d j : Nat} (p : alN f h b d j = true) (q : f (b + j) = h (d + j)) : alN f h b d (j + 1) = true := by
  show (alN f h b d j && @decide (f (b + j) = h (d + j)) (Classical.propDecidable _)) = true
  rw [p, @decide_eq_true _ (Classical.propDecidable _) q]; rfl
theorem alN_eq (f h : Nat → Int32) (b d n : Nat) : alN f h b d n = eqN n f h b d := by
  induction n with
  | zero => exact (eqN_t (fun j hj => absurd hj (Nat.not_lt_zero j))).symm
  | succ n ih =>
    by_cases p : alN f h b d n = true
    · by_cases q : f (b + n) = h (d + n)
      · rw [alN_t p q]
        rw [ih] at p
        exact (eqN_t (lt_s (eqN_p p) q)).symm
      · rw [alN_n q]
        exact (eqN_f (Nat.lt_succ_self n) q).symm
    · rw [Bool.not_eq_true] at p
      rw [alN_f p]
      rw [ih] at p
      have h1 := eqN_n p
      exact (@decide_eq_false _ (Classical.propDecidable _) (fun z => h1 (fun j hj => z j (Nat.lt_succ_of_lt hj)))).symm
noncomputable def anN (ol dg : Nat → Int32) (sd i : Nat) : Nat := it (fun j n => cond (alN ol dg (32 * (1 + j)) (2048 * sd + 32 * (1 + j)) 32) n (n + 1)) 0 i
theorem anN_t {ol dg : Nat → Int32} {sd j : Nat} (h : alN ol dg (32 * (1 + j)) (2048 * sd + 32 * (1 + j)) 32 = true) : anN ol dg sd (j + 1) = anN ol dg sd j := by
  show cond (alN ol dg (32 * (1 + j)) (2048 * sd + 32 * (1 + j)) 32) _ _ = _
  rw [h]; rfl
theorem anN_f {ol dg : Nat → Int32} {sd j : Nat} (h : alN ol dg (32 * (1 + j)) (2048 * sd + 32 * (1 + j)) 32 = false) : anN ol dg sd (j + 1) = anN ol dg sd j + 1 := by
  show cond (alN ol dg (32 * (1 + j)) (2048 * sd + 32 * (1 + j)) 32) _ _ = _
  rw [h]; rfl
theorem anN_le (ol dg : Nat → Int32) (sd i : Nat) : anN ol dg sd i ≤ i := by
  induction i with
  | zero => exact Nat.le_refl _
  | succ i ih =>
    cases h : alN ol dg (32 * (1 + i)) (2048 * sd + 32 * (1 + i)) 32
    · rw [anN_f h]; omega
    · rw [anN_t h]; omega
def lefV (tr hs : Nat → Bool) (r : Nat) (y : Int32) : Int32 :=
  if y.toInt = 0 then (if (fLf r - 32) / 8 = (lLf r - 32) / 8 then nI ((fLf r - 32) / 8) else -1) else if y.toInt = 1 then nI (8 * ((fLf r - 32) % 8) + 1) else if y.toInt = 2 then nI (8 * ((lLf r - 32) % 8) + 8) else if y.toInt = 3 then nI (mnN tr hs 0 r) else if y.toInt = 4 then nI (mnN tr hs 1 r) else -1
theorem rnS_le (kw hs tr : Nat → Bool) (kv vw : Nat → Int64) (rd : Nat → Int32) (r : Nat) (x : rnT) : (rnS kw hs tr kv vw rd r x).2.1.1 ≤ x.2.1.1 + 2 ∧ (rnS kw hs tr kv vw rd r x).2.2.1 ≤ x.2.2.1 + 8 := by
  unfold rnS
  cases eqN 32 (rf2 kw hs kv rd x.1).2.1 (rf2 kw hs kv rd x.1).2.1 (32 * r) (32 * (64 + r))
  · rw [cond_false]
    split
    · exact ⟨Nat.le_refl _, Nat.le_add_right _ _⟩
    · exact ⟨Nat.le_add_right _ _, cmL_le tr hs vw (8 * (r - 32)) x.2.2 8⟩
  · rw [cond_true]
    exact ⟨Nat.le_add_right _ _, Nat.le_add_right _ _⟩
theorem rnL_le (kw hs tr : Nat → Bool) (kv vw : Nat → Int64) (rd : Nat → Int32) (lk : Nat → Nat) (x : rnT) (i : Nat) : (rnL kw hs tr kv vw rd lk x i).2.1.1 ≤ x.2.1.1 + 2 * i ∧ (rnL kw hs tr kv vw rd lk x i).2.2.1 ≤ x.2.2.1 + 8 * i := by
  induction i with
  | zero => exact ⟨Nat.le_refl _, Nat.le_refl _⟩
  | succ i ih =>
    have h := rnS_le kw hs tr kv vw rd (lk i) (rnL kw hs tr kv vw rd lk x i)
    exact ⟨by show (rnS kw hs tr kv vw rd (lk i) (rnL kw hs tr kv vw rd lk x i)).2.1.1 ≤ _; omega, by show (rnS kw hs tr kv vw rd (lk i) (rnL kw hs tr kv vw rd lk x i)).2.2.1 ≤ _; omega⟩
theorem rnL_a {kw hs tr : Nat → Bool} {kv vw : Nat → Int64} {rd : Nat → Int32} {lk : Nat → Nat} {x : rnT} {j : Nat} (h : eqN 32 (rf2 kw hs kv rd (rnL kw hs tr kv vw rd lk x j).1).2.1 (rf2 kw hs kv rd (rnL kw hs tr kv vw rd lk x j).1).2.1 (32 * lk j) (32 * (64 + lk j)) = true) :
    rnL kw hs tr kv vw rd lk x (j + 1) = (rf2 kw hs kv rd (rnL kw hs tr kv vw rd lk x j).1, (rnL kw hs tr kv vw rd lk x j).2) := by
  show rnS kw hs tr kv vw rd (lk j) (rnL kw hs tr kv vw rd lk x j) = _
  generalize rnL kw hs tr kv vw rd lk x j = y at h ⊢
  unfold rnS
  rw [h, cond_true]
theorem rnL_b {kw hs tr : Nat → Bool} {kv vw : Nat → Int64} {rd : Nat → Int32} {lk : Nat → Nat} {x : rnT} {j : Nat} (h : eqN 32 (rf2 kw hs kv rd (rnL kw hs tr kv vw rd lk x j).1).2.1 (rf2 kw hs kv rd (rnL kw hs tr kv vw rd lk x j).1).2.1 (32 * lk j) (32 * (64 + lk j)) = false) (hr : lk j < 32) :
    rnL kw hs tr kv vw rd lk x (j + 1) = (rf2 kw hs kv rd (rnL kw hs tr kv vw rd lk x j).1, (((rnL kw hs tr kv vw rd lk x j).2.1.1 + 2, va_up (va_up (rnL kw hs tr kv vw rd lk x j).2.1.2 (rnL kw hs tr kv vw rd lk x j).2.1.1 (2 * lk j)) ((rnL kw hs tr kv vw rd lk x j).2.1.1 + 1) (2 * lk j + 1)), (rnL kw hs tr kv vw rd lk x j).2.2)) := by
  show rnS kw hs tr kv vw rd (lk j) (rnL kw hs tr kv vw rd lk x j) = _
  generalize rnL kw hs tr kv vw rd lk x j = y at h ⊢
  unfold rnS
  rw [h, cond_false, if_pos hr]
theorem rnL_c {kw hs tr : Nat → Bool} {kv vw : Nat → Int64} {rd : Nat → Int32} {lk : Nat → Nat} {x : rnT} {j : Nat} (h : eqN 32 (rf2 kw hs kv rd (rnL kw hs tr kv vw rd lk x j).1).2.1 (rf2 kw hs kv rd (rnL kw hs tr kv vw rd lk x j).1).2.1 (32 * lk j) (32 * (64 + lk j)) = false) (hr : ¬ lk j < 32) :
    rnL kw hs tr kv vw rd lk x (j + 1) = (rf2 kw hs kv rd (rnL kw hs tr kv vw rd lk x j).1, ((rnL kw hs tr kv vw rd lk x j).2.1, cmL tr hs vw (8 * (lk j - 32)) (rnL kw hs tr kv vw rd lk x j).2.2 8)) := by
  show rnS kw hs tr kv vw rd (lk j) (rnL kw hs tr kv vw rd lk x j) = _
  generalize rnL kw hs tr kv vw rd lk x j = y at h ⊢
  unfold rnS
  rw [h, cond_false, if_neg hr]
