/-! the reference's hash is the class's; more words of the reference -/
theorem hsM_eq (j k : Nat) (v : Int64) (tx : Nat → Int32) : hsM j k v tx = hsh j k v := hsM_eq' j k v tx
theorem mxL_eq (th k : Nat) (v : Int64) (sg : Int32) (tx : Nat → Int32) (x : tcT) : mxL th k v sg tx x 3 = tnL th k v sg x := by
  unfold mxL tnL
  have e : mxS th k v sg (hsM 3 k v tx) (mxT3 k v tx) = tnS th k v sg := by
    funext j y
    unfold mxS tnS
    rw [hsM_eq, hsM_eq]
  rw [e]
def cand (x : tcT) (q : Nat) : Bool := (decide (x.1 q = nI 1) || decide (x.1 q = -1)) && wiN (x.2.1 q) (nI 0) (nI 255)
def puT (x : tcT) (y : txT) (i : Nat) : txT := it (fun q z => cond (cand x q) (11, hsT 3 (x.2.1 q).toNatClampNeg (x.2.2.1 q) z.2) z) y i
theorem puT_t {x : tcT} {y : txT} {q : Nat} (h : cand x q = true) : puT x y (q + 1) = (11, hsT 3 (x.2.1 q).toNatClampNeg (x.2.2.1 q) (puT x y q).2) := by
  show cond (cand x q) _ _ = _
  rw [h]; rfl
theorem puT_f {x : tcT} {y : txT} {q : Nat} (h : cand x q = false) : puT x y (q + 1) = puT x y q := by
  show cond (cand x q) _ _ = _
  rw [h]; rfl
theorem puT_le (x : tcT) (y : txT) (hy : y.1 ≤ 128) (i : Nat) : (puT x y i).1 ≤ 128 := by
  induction i with
  | zero => exact hy
  | succ i ih =>
    cases h : cand x i
    · rw [puT_f h]; exact ih
    · rw [puT_t h]; show 11 ≤ 128; decide
theorem cand_i {co ky mk : Nat → Int32} {vl : Nat → Int64} {q : Nat} (h : co q = nI 1 ∨ co q = -1) (h2 : wiN (ky q) (nI 0) (nI 255) = true) : cand (co, ky, vl, mk) q = true := by
  show ((decide (co q = nI 1) || decide (co q = -1)) && wiN (ky q) (nI 0) (nI 255)) = true
  rw [h2]
  rcases h with h | h
  · rw [decide_eq_true h]; rfl
  · rw [decide_eq_true h, Bool.or_true]; rfl
theorem cand_o {co ky mk : Nat → Int32} {vl : Nat → Int64} {q : Nat} (h : ¬ co q = nI 1) (h1 : ¬ co q = -1) : cand (co, ky, vl, mk) q = false := by
  show ((decide (co q = nI 1) || decide (co q = -1)) && wiN (ky q) (nI 0) (nI 255)) = false
  rw [decide_eq_false h, decide_eq_false h1]; rfl
theorem cand_w {co ky mk : Nat → Int32} {vl : Nat → Int64} {q : Nat} (h : wiN (ky q) (nI 0) (nI 255) = false) : cand (co, ky, vl, mk) q = false := by
  show ((decide (co q = nI 1) || decide (co q = -1)) && wiN (ky q) (nI 0) (nI 255)) = false
  rw [h, Bool.and_false]
theorem pur_w {x : tcT} {q : Nat} (h : pur x q = true) : ∃ kk, kk < 256 ∧ x.2.1 q = nI kk := by
  obtain ⟨-, h2, h3, -⟩ := pur_p h
  exact key_n h2 h3
/-- where the search for a pure cell stands at its end -/
noncomputable def puE (x : tcT) (n : Nat) : Nat := if fpN (pur x) n < n then fpN (pur x) n + 1 else n
/-- all rows into the table: cells and text -/
abbrev tbT : Type := tcT × txT
def tbS (th : Nat) (tr hs : Nat → Bool) (vw : Nat → Int64) (k : Nat) (x : tbT) : tbT :=
  cond (tr k && (hs (k % 256 / 64) && hs (4 + k % 256 / 64))) (tnL th (k % 256) (vw k) (if k < 256 then nI 1 else -1) x.1, (11, mxT3 (k % 256) (vw k) x.2.2 3)) x
def tbL (th : Nat) (tr hs : Nat → Bool) (vw : Nat → Int64) (x : tbT) (i : Nat) : tbT := it (fun k y => tbS th tr hs vw k y) x i
theorem tbL_f {th : Nat} {tr hs : Nat → Bool} {vw : Nat → Int64} {x : tbT} {k : Nat} (h : (tr k && (hs (k % 256 / 64) && hs (4 + k % 256 / 64))) = false) : tbL th tr hs vw x (k + 1) = tbL th tr hs vw x k := by
  show tbS th tr hs vw k _ = _
  unfold tbS
  rw [h, cond_false]; rfl
theorem tbL_1 {th : Nat} {tr hs : Nat → Bool} {vw : Nat → Int64} {x : tbT} {k : Nat} (h : (tr k && (hs (k % 256 / 64) && hs (4 + k % 256 / 64))) = true) (hk : k < 256) : tbL th tr hs vw x (k + 1) = (tnL th (k % 256) (vw k) (nI 1) (tbL th tr hs vw x k).1, (11, mxT3 (k % 256) (vw k) (tbL th tr hs vw x k).2.2 3)) := by
  show tbS th tr hs vw k _ = _
  unfold tbS
  rw [h, cond_true, if_pos hk]; rfl
theorem tbL_2 {th : Nat} {tr hs : Nat → Bool} {vw : Nat → Int64} {x : tbT} {k : Nat} (h : (tr k && (hs (k % 256 / 64) && hs (4 + k % 256 / 64))) = true) (hk : ¬ k < 256) : tbL th tr hs vw x (k + 1) = (tnL th (k % 256) (vw k) (-1) (tbL th tr hs vw x k).1, (11, mxT3 (k % 256) (vw k) (tbL th tr hs vw x k).2.2 3)) := by
  show tbS th tr hs vw k _ = _
  unfold tbS
  rw [h, cond_true, if_neg hk]; rfl
theorem tbL_le (th : Nat) (tr hs : Nat → Bool) (vw : Nat → Int64) (x : tbT) (hx : x.2.1 ≤ 128) (i : Nat) : (tbL th tr hs vw x i).2.1 ≤ 128 := by
  induction i with
  | zero => exact hx
  | succ i ih =>
    cases h : (tr i && (hs (i % 256 / 64) && hs (4 + i % 256 / 64)))
    · rw [tbL_f h]; exact ih
    · by_cases hk : i < 256
      · rw [tbL_1 h hk]; show 11 ≤ 128; decide
      · rw [tbL_2 h hk]; show 11 ≤ 128; decide
/-- one cell peeled: cells, what was found, text (the search for the next one done) -/
abbrev pmT : Type := pkT × txT
noncomputable def pmS (n : Nat) (x : pmT) : pmT :=
  (tkO (n / 3) (fpN (pur x.1.1) n) x.1, puT (tkO (n / 3) (fpN (pur x.1.1) n) x.1).1 (11, mxT3 (x.1.1.2.1 (fpN (pur x.1.1) n)).toNatClampNeg (x.1.1.2.2.1 (fpN (pur x.1.1) n)) x.2.2 3) (puE (tkO (n / 3) (fpN (pur x.1.1) n) x.1).1 n))
noncomputable def pmL (n : Nat) (x : pmT) (i : Nat) : pmT := it (fun _ y => if fpN (pur y.1.1) n < n then pmS n y else y) x i
theorem pmL_t {n : Nat} {x : pmT} {i : Nat} (h : fpN (pur (pmL n x i).1.1) n < n) : pmL n x (i + 1) = pmS n (pmL n x i) := if_pos h
theorem pmL_stop {n : Nat} {x : pmT} {i : Nat} (h : ¬ fpN (pur (pmL n x i).1.1) n < n) : ∀ m, pmL n x (i + m) = pmL n x i := by
  intro m
  induction m with
  | zero => rfl
  | succ m ih =>
    show (if fpN (pur (pmL n x (i + m)).1.1) n < n then _ else _) = _
    rw [ih, if_neg h]
    exact ih
/-- a leaf, made of the rows as they are, beside the one that is kept -/
def tfV (ta : Bool) (fo : Nat) (fv : Nat → Int64) (x : Int32) : Bool := ta && wiN x (nI 0) (nI fo - nI 1)
def fdV (ta : Bool) (fo : Nat) (fs : Nat → Int32) (fl : Nat → Nat) (x y : Int32) : Int32 := if (ta && wiN x (nI 0) (nI fo - nI 1)) = true then (if y = 0 then fs x.toNatClampNeg else if y = nI 1 then nI (fl x.toNatClampNeg / 64) else if y = nI 2 then nI (fl x.toNatClampNeg % 64 + 1) else -1) else -1
