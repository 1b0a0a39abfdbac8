/-! pure words of the class's helpers and of Side -/
def inR (x lo hi : Int32) : Bool := !decide (x < lo) && !decide (hi ≤ x)
def m_slot (x y z : Int32) : Int32 := if (inR x 0 (nI 2) && inR y 0 (nI 4) && !decide (z < nI 1) && decide (z ≤ nI 64)) = true then nI 64 * y + z - nI 1 else -1
def mixS (v : Int64) (n j : Nat) (x : Int32) : Int32 := rl (x ^^^ byteAt v (n - j - 1)) (nI 7) * 668265263
def mixL (v : Int64) (n : Nat) (x : Int32) : Int32 := it (mixS v n) x n
def mixR (x : Int32) (k : Nat) (v : Int64) : Int32 := mixL v 8 (mixL (Int32.toInt64 (nI (k % 64 + 1))) 1 (mixL (Int32.toInt64 (nI (k / 64))) 1 x))
theorem va_up_id {α : Type} {f : Nat → α} {k : Nat} {v : α} (h : f k = v) : va_up f k v = f := by
  funext j
  unfold va_up
  by_cases hj : j = k
  · rw [if_pos hj, hj, h]
  · rw [if_neg hj]
theorem va_up_at {α : Type} (f : Nat → α) (k : Nat) (v : α) : va_up f k v k = v := if_pos rfl
theorem va_up_off {α : Type} (f : Nat → α) {k j : Nat} (v : α) (h : j ≠ k) : va_up f k v j = f j := if_neg h
def qC (pr ho ho2 : Nat → Bool) (k : Nat) : Bool := pr k && ho (k / 64) && ho2 (k / 64)
noncomputable def eq8 (f h : Nat → Int32) (b d : Nat) : Bool := @decide (∀ j, j < 8 → f (b + j) = h (d + j)) (Classical.propDecidable _)
theorem eq8_t {f h : Nat → Int32} {b d : Nat} (q : ∀ j, j < 8 → f (b + j) = h (d + j)) : eq8 f h b d = true := @decide_eq_true _ (Classical.propDecidable _) q
theorem eq8_f {f h : Nat → Int32} {b d j : Nat} (hj : j < 8) (q : ¬ f (b + j) = h (d + j)) : eq8 f h b d = false := @decide_eq_false _ (Classical.propDecidable _) (fun z => q (z j hj))
theorem eq8_p {f h : Nat → Int32} {b d : Nat} (q : eq8 f h b d = true) : ∀ j, j < 8 → f (b + j) = h (d + j) := @of_decide_eq_true _ (Classical.propDecidable _) q
theorem eq8_n {f h : Nat → Int32} {b d : Nat} (q : eq8 f h b d = false) : ¬ ∀ j, j < 8 → f (b + j) = h (d + j) := @of_decide_eq_false _ (Classical.propDecidable _) q
def cntR (f : Nat → Bool) (b i : Nat) : Nat := it (fun j n => cond (f (b + j)) (n + 1) n) 0 i
theorem cntR_t {f : Nat → Bool} {b j : Nat} (h : f (b + j) = true) : cntR f b (j + 1) = cntR f b j + 1 := by
  show cond (f (b + j)) _ _ = _
  rw [h]; rfl
theorem cntR_f {f : Nat → Bool} {b j : Nat} (h : f (b + j) = false) : cntR f b (j + 1) = cntR f b j := by
  show cond (f (b + j)) _ _ = _
  rw [h]; rfl
theorem cntR_le (f : Nat → Bool) (b i : Nat) : cntR f b i ≤ i := by
  induction i with
  | zero => exact Nat.le_refl 0
  | succ i ih =>
    cases h : f (b + i)
    · rw [cntR_f h]; omega
    · rw [cntR_t h]; omega
def sumF (pr : Nat → Bool) (va : Nat → Int64) (b i : Nat) : Int32 := it (fun j x => cond (pr (b + j)) (mixR x (b + j) (va (b + j))) x) (nI 0) i
theorem sumF_t {pr : Nat → Bool} {va : Nat → Int64} {b j : Nat} (h : pr (b + j) = true) : sumF pr va b (j + 1) = mixR (sumF pr va b j) (b + j) (va (b + j)) := by
  show cond (pr (b + j)) _ _ = _
  rw [h]; rfl
theorem sumF_f {pr : Nat → Bool} {va : Nat → Int64} {b j : Nat} (h : pr (b + j) = false) : sumF pr va b (j + 1) = sumF pr va b j := by
  show cond (pr (b + j)) _ _ = _
  rw [h]; rfl
def leafSumV (ct : Nat → Int32) (pr : Nat → Bool) (va : Nat → Int64) (k : Nat) : Int32 := if ct k = 0 then nI 0 else sumF pr va (8 * (k - 32)) 8
def innerSumV (ct sm : Nat → Int32) (r : Nat) : Int32 := if ct r = 0 then nI 0 else mixL (Int32.toInt64 (sm (2 * r + 1))) 4 (mixL (Int32.toInt64 (sm (2 * r))) 4 (nI 0))
abbrev shaT : Type := Nat × ((Nat → Int32) × (Nat → Int32))
def rowS (v : Int64) (k : Nat) (x : shaT) : shaT := (x.1 + 1 + 1 + 8, tkL v 8 (x.1 + 1 + 1) (tkL (Int32.toInt64 (nI (k % 64 + 1))) 1 (x.1 + 1) (tkL (Int32.toInt64 (nI (k / 64))) 1 x.1 x.2)))
def hlL (pr : Nat → Bool) (va : Nat → Int64) (b : Nat) (x : shaT) (i : Nat) : shaT := it (fun j x => cond (pr (b + j)) (rowS (va (b + j)) (b + j) x) x) x i
theorem hlL_t {pr : Nat → Bool} {va : Nat → Int64} {b j : Nat} {x : shaT} (h : pr (b + j) = true) : hlL pr va b x (j + 1) = rowS (va (b + j)) (b + j) (hlL pr va b x j) := by
  show cond (pr (b + j)) _ _ = _
  rw [h]; rfl
theorem hlL_f {pr : Nat → Bool} {va : Nat → Int64} {b j : Nat} {x : shaT} (h : pr (b + j) = false) : hlL pr va b x (j + 1) = hlL pr va b x j := by
  show cond (pr (b + j)) _ _ = _
  rw [h]; rfl
theorem hlL_le (pr : Nat → Bool) (va : Nat → Int64) (b : Nat) (y : (Nat → Int32) × (Nat → Int32)) (i : Nat) : (hlL pr va b (0, y) i).1 ≤ 10 * i := by
  induction i with
  | zero => exact Nat.le_refl 0
  | succ i ih =>
    cases h : pr (b + i)
    · rw [hlL_f h]; omega
    · rw [hlL_t h]; show _ + 1 + 1 + 8 ≤ _; omega
def zero8 (f : Nat → Int32) : Nat → Int32 := it (fun i z => va_up z i (nI 0)) f 8
def st0 (x : shaT) : shaT := (0, (va_cpy sha_H x.2.1 0 0 8, x.2.2))
def fin (x : shaT) : shaT := (x.1 + 1 + zN x.1 + 8, finS x.1 x.2)
/-- Side.hashLeaf -/
def hashL (c : Int32) (pr : Nat → Bool) (va : Nat → Int64) (b : Nat) (x : shaT) : shaT := if c = 0 then (x.1, (zero8 x.2.1, x.2.2)) else fin (hlL pr va b (st0 x) 8)
def hiL (dg : Nat → Int32) (b : Nat) (y : (Nat → Int32) × (Nat → Int32)) (i : Nat) : (Nat → Int32) × (Nat → Int32) := it (fun j x => tkL (Int32.toInt64 (dg (b + j))) 4 (4 * j) x) y i
/-- Side.hashInner -/
def hashI (c : Int32) (dg : Nat → Int32) (b : Nat) (x : shaT) : shaT := if c = 0 then (x.1, (zero8 x.2.1, x.2.2)) else fin (64, hiL dg b (st0 x).2 16)
def cp8 (dg : Nat → Int32) (b : Nat) (f : Nat → Int32) (i : Nat) : Nat → Int32 := it (fun j q => va_up q (b + j) (f j)) dg i
theorem cp8_off {dg f : Nat → Int32} {b : Nat} (i : Nat) {j : Nat} (h : j < b ∨ b + i ≤ j) : cp8 dg b f i j = dg j := by
  induction i with
  | zero => rfl
  | succ i ih =>
    show va_up (cp8 dg b f i) (b + i) (f i) j = _
    rw [va_up_off _ _ (by omega)]
    exact ih (by omega)
theorem cp8_in {dg f : Nat → Int32} {b i j : Nat} (h : j < i) : cp8 dg b f i (b + j) = f j := by
  induction i with
  | zero => omega
  | succ i ih =>
    show va_up (cp8 dg b f i) (b + i) (f i) (b + j) = _
    by_cases hj : j = i
    · subst hj; rw [va_up_at]
    · rw [va_up_off _ _ (by omega)]
      exact ih (by omega)
theorem cp8_id {dg f : Nat → Int32} {b : Nat} (q : eq8 dg f b 0 = true) : cp8 dg b f 8 = dg := by
  funext j
  by_cases h : j < b ∨ b + 8 ≤ j
  · exact cp8_off 8 h
  · obtain ⟨i, rfl⟩ : ∃ i, j = b + i := ⟨j - b, by omega⟩
    rw [cp8_in (by omega), eq8_p q i (by omega), Nat.zero_add]
/-- what Side.remake changes: digests, sums, counting, sha, how many changed -/
abbrev rmT : Type := (Nat → Int32) × (Nat → Int32) × (Nat → Int32) × shaT × Nat
noncomputable def keepN (dg : Nat → Int32) (b : Nat) (f : Nat → Int32) : Nat := cond (eq8 dg f b 0) 0 1
/-- one leaf, made anew -/
noncomputable def rmL (pr : Nat → Bool) (va : Nat → Int64) (q : Nat → Bool) (k : Nat) (x : rmT) : rmT :=
  (cp8 x.1 (8 * k) (hashL (va_up x.2.2.1 k (nI (cntR q (8 * (k - 32)) 8)) k) pr va (8 * (k - 32)) x.2.2.2.1).2.1 8,
   va_up x.2.1 k (leafSumV (va_up x.2.2.1 k (nI (cntR q (8 * (k - 32)) 8))) pr va k),
   va_up x.2.2.1 k (nI (cntR q (8 * (k - 32)) 8)),
   hashL (va_up x.2.2.1 k (nI (cntR q (8 * (k - 32)) 8)) k) pr va (8 * (k - 32)) x.2.2.2.1,
   x.2.2.2.2 + keepN x.1 (8 * k) (hashL (va_up x.2.2.1 k (nI (cntR q (8 * (k - 32)) 8)) k) pr va (8 * (k - 32)) x.2.2.2.1).2.1)
/-- one range above the leaves, made anew -/
noncomputable def rmI (r : Nat) (x : rmT) : rmT :=
  (cp8 x.1 (8 * r) (hashI (va_up x.2.2.1 r (x.2.2.1 (2 * r) + x.2.2.1 (2 * r + 1)) r) x.1 (16 * r) x.2.2.2.1).2.1 8,
   va_up x.2.1 r (innerSumV (va_up x.2.2.1 r (x.2.2.1 (2 * r) + x.2.2.1 (2 * r + 1))) x.2.1 r),
   va_up x.2.2.1 r (x.2.2.1 (2 * r) + x.2.2.1 (2 * r + 1)),
   hashI (va_up x.2.2.1 r (x.2.2.1 (2 * r) + x.2.2.1 (2 * r + 1)) r) x.1 (16 * r) x.2.2.2.1,
   x.2.2.2.2 + keepN x.1 (8 * r) (hashI (va_up x.2.2.1 r (x.2.2.1 (2 * r) + x.2.2.1 (2 * r + 1)) r) x.1 (16 * r) x.2.2.2.1).2.1)
noncomputable def rmLs (pr : Nat → Bool) (va : Nat → Int64) (q : Nat → Bool) (fi : Nat) (x : rmT) (i : Nat) : rmT := it (fun j y => rmL pr va q (fi + j) y) x i
noncomputable def rmIs (lo : Nat) (x : rmT) (i : Nat) : rmT := it (fun j y => rmI (lo + j) y) x i
def hv (x d : Nat) : Nat := it (fun _ y => y / 2) x d
noncomputable def rmUp (lo hi : Nat) (x : rmT) (d : Nat) : rmT := it (fun k y => rmIs (hv lo k) y (hv hi k + 1 - hv lo k)) x d
noncomputable def rmAll (pr : Nat → Bool) (va : Nat → Int64) (q : Nat → Bool) (fi la : Nat) (x : rmT) : rmT := rmUp (fi / 2) (la / 2) (rmLs pr va q fi x (la + 1 - fi)) 5
theorem hv_le {a b : Nat} (h : a ≤ b) (d : Nat) : hv a d ≤ hv b d := by
  induction d with
  | zero => exact h
  | succ d ih => show hv a d / 2 ≤ hv b d / 2; omega
theorem hv_in {f : Nat} (h1 : 32 ≤ f) (h2 : f < 64) : (∀ d, d < 5 → 1 ≤ hv (f / 2) d ∧ hv (f / 2) d < 32) ∧ hv (f / 2) 5 = 0 := by
  refine ⟨fun d hd => ?_, by show f / 2 / 2 / 2 / 2 / 2 / 2 = 0; omega⟩
  match d, hd with
  | 0, _ => exact ⟨by show 1 ≤ f / 2; omega, by show f / 2 < 32; omega⟩
  | 1, _ => exact ⟨by show 1 ≤ f / 2 / 2; omega, by show f / 2 / 2 < 32; omega⟩
  | 2, _ => exact ⟨by show 1 ≤ f / 2 / 2 / 2; omega, by show f / 2 / 2 / 2 < 32; omega⟩
  | 3, _ => exact ⟨by show 1 ≤ f / 2 / 2 / 2 / 2; omega, by show f / 2 / 2 / 2 / 2 < 32; omega⟩
  | 4, _ => exact ⟨by show 1 ≤ f / 2 / 2 / 2 / 2 / 2; omega, by show f / 2 / 2 / 2 / 2 / 2 < 32; omega⟩
  | d + 5, hd => omega
