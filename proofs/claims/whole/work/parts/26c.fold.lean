/-! sums: the class's mixing is the reference's folding of a text -/
theorem it_congr {α : Type} {f g : Nat → α → α} {a : α} : ∀ {n : Nat}, (∀ j, j < n → ∀ y, f j y = g j y) → it f a n = it g a n
  | 0, _ => rfl
  | n + 1, h => by
    show f n (it f a n) = g n (it g a n)
    rw [it_congr (fun j hj y => h j (Nat.lt_succ_of_lt hj) y), h n (Nat.lt_succ_self n)]
theorem it_add {α : Type} (f : Nat → α → α) (a : α) (n m : Nat) : it f a (n + m) = it (fun j => f (n + j)) (it f a n) m := by
  induction m with
  | zero => rfl
  | succ m ih =>
    show f (n + m) (it f a (n + m)) = f (n + m) (it (fun j => f (n + j)) (it f a n) m)
    rw [ih]
theorem rowT_lo {v : Int64} {k bt : Nat} {tx : Nat → Int32} {t : Nat} (h : t < bt + 1 + 1) : ∀ i, rowT v k bt tx i t = va_up (va_up tx bt (nI (k / 64) &&& nI 255)) (bt + 1) (nI (k % 64 + 1) &&& nI 255) t
  | 0 => rfl
  | i + 1 => by
    show va_up (rowT v k bt tx i) (bt + 1 + 1 + i) (shB v i) t = _
    rw [va_up_off _ _ (by omega)]
    exact rowT_lo h i
theorem rowT_lt {v : Int64} {k bt : Nat} {tx : Nat → Int32} {t : Nat} (i : Nat) (h : t < bt) : rowT v k bt tx i t = tx t := by
  rw [rowT_lo (by omega), va_up_off _ _ (by omega), va_up_off _ _ (by omega)]
theorem rowT_0 (v : Int64) (k bt : Nat) (tx : Nat → Int32) (i : Nat) : rowT v k bt tx i bt = nI (k / 64) &&& nI 255 := by
  rw [rowT_lo (by omega), va_up_off _ _ (by omega), va_up_at]
theorem rowT_1 (v : Int64) (k bt : Nat) (tx : Nat → Int32) (i : Nat) : rowT v k bt tx i (bt + 1) = nI (k % 64 + 1) &&& nI 255 := by
  rw [rowT_lo (by omega), va_up_at]
theorem rowT_j (v : Int64) (k bt : Nat) (tx : Nat → Int32) : ∀ i j, j < i → rowT v k bt tx i (bt + 1 + 1 + j) = shB v j
  | 0, j, h => by omega
  | i + 1, j, h => by
    show va_up (rowT v k bt tx i) (bt + 1 + 1 + i) (shB v i) (bt + 1 + 1 + j) = _
    by_cases q : j = i
    · rw [q, va_up_at]
    · rw [va_up_off _ _ (by omega)]
      exact rowT_j v k bt tx i j (by omega)
theorem rowT_same {v : Int64} {k bt : Nat} {tx tx' : Nat → Int32} (h : ∀ t, t < bt → tx t = tx' t) : ∀ t, t < bt + 1 + 1 + 8 → rowT v k bt tx 8 t = rowT v k bt tx' 8 t := by
  intro t ht
  by_cases h1 : t < bt
  · rw [rowT_lt 8 h1, rowT_lt 8 h1]; exact h t h1
  · by_cases h2 : t = bt
    · rw [h2, rowT_0, rowT_0]
    · by_cases h3 : t = bt + 1
      · rw [h3, rowT_1, rowT_1]
      · obtain ⟨j, rfl⟩ : ∃ j, t = bt + 1 + 1 + j := ⟨t - (bt + 1 + 1), by omega⟩
        rw [rowT_j _ _ _ _ 8 j (by omega), rowT_j _ _ _ _ 8 j (by omega)]
theorem row_b0 (v : Int64) (k bt : Nat) (tx : Nat → Int32) : ∀ j, j < 1 → rowT v k bt tx 8 (bt + j) = byteAt (Int32.toInt64 (nI (k / 64))) (1 - j - 1) := by
  intro j hj
  obtain rfl : j = 0 := by omega
  rw [Nat.add_zero, rowT_0]
  exact (by0 _).symm
theorem row_b1 (v : Int64) (k bt : Nat) (tx : Nat → Int32) : ∀ j, j < 1 → rowT v k bt tx 8 (bt + 1 + j) = byteAt (Int32.toInt64 (nI (k % 64 + 1))) (1 - j - 1) := by
  intro j hj
  obtain rfl : j = 0 := by omega
  rw [Nat.add_zero, rowT_1]
  exact (by0 _).symm
theorem row_b2 (v : Int64) (k bt : Nat) (tx : Nat → Int32) : ∀ j, j < 8 → rowT v k bt tx 8 (bt + 1 + 1 + j) = byteAt v (8 - j - 1) := by
  intro j hj
  rw [rowT_j _ _ _ _ 8 j hj, ← shB_eq hj, show 8 - j - 1 = 7 - j by omega]
theorem fldT_congr {tx tx' : Nat → Int32} {n : Nat} (h : ∀ t, t < n → tx t = tx' t) : fldT tx n = fldT tx' n := by
  unfold fldT
  exact it_congr (fun j hj y => by rw [h j hj])
theorem mixL_fld {v : Int64} {m n : Nat} {B : Nat → Int32} (h : ∀ j, j < m → B (n + j) = byteAt v (m - j - 1)) : mixL v m (fldT B n) = fldT B (n + m) := by
  unfold mixL fldT
  rw [it_add]
  refine it_congr (fun j hj y => ?_)
  show rl (y ^^^ byteAt v (m - j - 1)) (nI 7) * 668265263 = mL (y ^^^ B (n + j)) 7 * 668265263
  rw [mL_rl, h j hj]
theorem mixR_fld (v : Int64) (k n : Nat) (tx : Nat → Int32) : mixR (fldT tx n) k v = fldT (rowT v k n tx 8) (n + 1 + 1 + 8) := by
  unfold mixR
  rw [fldT_congr (tx' := rowT v k n tx 8) (fun t ht => (rowT_lt 8 ht).symm), mixL_fld (row_b0 v k n tx), mixL_fld (row_b1 v k n tx), mixL_fld (row_b2 v k n tx)]
theorem hsM_eq' (j k : Nat) (v : Int64) (tx : Nat → Int32) : hsM j k v tx = hsh j k v := by
  unfold hsM hsh hsT
  have e : mixL (Int32.toInt64 (nI j)) 1 (nI 0) = fldT (va_up tx 0 (nI j &&& nI 255)) 1 := by
    have := mixL_fld (v := Int32.toInt64 (nI j)) (m := 1) (n := 0) (B := va_up tx 0 (nI j &&& nI 255)) (fun i hi => by
      obtain rfl : i = 0 := by omega
      rw [va_up_at]
      exact (by0 _).symm)
    exact this
  rw [e, mixR_fld]
