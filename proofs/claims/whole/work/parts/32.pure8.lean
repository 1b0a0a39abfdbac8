/-! words of DigestTrees' public methods -/
theorem inR_0 {r hi : Nat} (h2 : r < hi) (h3 : hi < 2 ^ 31) : inR (nI r) 0 (nI hi) = true := inR_n (Nat.zero_le r) h2 h3
abbrev twV : Type := (Nat → Bool) × (Nat → Bool) × (Nat → Int64)
def tcS (th : Nat) (qa qb : Nat → Bool) (va vb : Nat → Int64) (k : Nat) (x : tcT) : tcT :=
  cond (qb k) (tnL th k (vb k) (-1) (cond (qa k) (tnL th k (va k) (nI 1) x) x)) (cond (qa k) (tnL th k (va k) (nI 1) x) x)
def tcL (th : Nat) (qa qb : Nat → Bool) (va vb : Nat → Int64) (x : tcT) (i : Nat) : tcT := it (fun k y => tcS th qa qb va vb k y) x i
theorem tcL_ff {th : Nat} {qa qb : Nat → Bool} {va vb : Nat → Int64} {x : tcT} {k : Nat} (ha : qa k = false) (hb : qb k = false) : tcL th qa qb va vb x (k + 1) = tcL th qa qb va vb x k := by
  show tcS th qa qb va vb k (tcL th qa qb va vb x k) = _
  unfold tcS; rw [ha, hb]; rfl
theorem tcL_tf {th : Nat} {qa qb : Nat → Bool} {va vb : Nat → Int64} {x : tcT} {k : Nat} (ha : qa k = true) (hb : qb k = false) : tcL th qa qb va vb x (k + 1) = tnL th k (va k) (nI 1) (tcL th qa qb va vb x k) := by
  show tcS th qa qb va vb k (tcL th qa qb va vb x k) = _
  unfold tcS; rw [ha, hb]; rfl
theorem tcL_ft {th : Nat} {qa qb : Nat → Bool} {va vb : Nat → Int64} {x : tcT} {k : Nat} (ha : qa k = false) (hb : qb k = true) : tcL th qa qb va vb x (k + 1) = tnL th k (vb k) (-1) (tcL th qa qb va vb x k) := by
  show tcS th qa qb va vb k (tcL th qa qb va vb x k) = _
  unfold tcS; rw [ha, hb]; rfl
theorem tcL_tt {th : Nat} {qa qb : Nat → Bool} {va vb : Nat → Int64} {x : tcT} {k : Nat} (ha : qa k = true) (hb : qb k = true) : tcL th qa qb va vb x (k + 1) = tnL th k (vb k) (-1) (tnL th k (va k) (nI 1) (tcL th qa qb va vb x k)) := by
  show tcS th qa qb va vb k (tcL th qa qb va vb x k) = _
  unfold tcS; rw [ha, hb]; rfl
noncomputable def tcV (x : pkT) : Int32 := cond (isz x.1 63) (nI x.2.2.2.2) ((-1) - nI x.2.2.2.2)
def bcL (ct : Nat → Int32) (pr : Nat → Bool) (va : Nat → Int64) (x : shaT) (i : Nat) : shaT := it (fun j y => hashL (ct (32 + j)) pr va (8 * (32 + j - 32)) y) x i
noncomputable def bcQ (dg ct : Nat → Int32) (pr : Nat → Bool) (va : Nat → Int64) (x : shaT) (j : Nat) : Bool := !eq8 dg (bcL ct pr va x (j + 1)).2.1 (8 * (32 + j)) 0
def lcV (ct ct2 : Nat → Int32) (r : Nat) (y : Int32) : Int32 :=
  if y.toInt = 0 then (if 8 * (fLf r - 32) / 64 = (8 * (lLf r - 32) + 8 - 1) / 64 then nI (8 * (fLf r - 32) / 64) else -1) else if y.toInt = 1 then nI (8 * (fLf r - 32) % 64 + 1) else if y.toInt = 2 then nI ((8 * (lLf r - 32) + 8 - 1) % 64 + 1) else if y.toInt = 3 then ct r else if y.toInt = 4 then ct2 r else -1
