/-! the ranges' digests and sums as the document has them: of leaves, of ranges above -/
def tq (q : Nat → Bool) (v : Nat → Int64) (b : Nat) (tx : Nat → Int32) (i : Nat) : txT := it (fun j x => cond (q (b + j)) (x.1 + 1 + 1 + 8, rowT (v (b + j)) (b + j) x.1 x.2 8) x) (0, tx) i
theorem lfT_tq (kw hs : Nat → Bool) (vw : Nat → Int64) (sd b : Nat) (tx : Nat → Int32) (i : Nat) : lfT kw hs vw sd b tx i = tq (qM kw hs sd) (fun k => vw (256 * sd + k)) b tx i := rfl
theorem tq_t {q : Nat → Bool} {v : Nat → Int64} {b j : Nat} {tx : Nat → Int32} (h : q (b + j) = true) : tq q v b tx (j + 1) = ((tq q v b tx j).1 + 1 + 1 + 8, rowT (v (b + j)) (b + j) (tq q v b tx j).1 (tq q v b tx j).2 8) := by
  show cond (q (b + j)) _ _ = _
  rw [h]; rfl
theorem tq_f {q : Nat → Bool} {v : Nat → Int64} {b j : Nat} {tx : Nat → Int32} (h : q (b + j) = false) : tq q v b tx (j + 1) = tq q v b tx j := by
  show cond (q (b + j)) _ _ = _
  rw [h]; rfl
theorem cntR_congr {f g : Nat → Bool} {b i : Nat} (h : ∀ j, j < i → f (b + j) = g (b + j)) : cntR f b i = cntR g b i := by
  unfold cntR
  exact it_congr (fun j hj y => by rw [h j hj])
theorem tq_len (q : Nat → Bool) (v : Nat → Int64) (b : Nat) (tx : Nat → Int32) (i : Nat) : (tq q v b tx i).1 = 10 * cntR q b i := by
  induction i with
  | zero => rfl
  | succ i ih =>
    cases h : q (b + i)
    · rw [tq_f h, cntR_f h]; exact ih
    · rw [tq_t h, cntR_t h]; show _ + 1 + 1 + 8 = _; omega
theorem tq_same {q q' : Nat → Bool} {v v' : Nat → Int64} {b : Nat} {tx tx' : Nat → Int32} : ∀ i, (∀ j, j < i → q (b + j) = q' (b + j)) → (∀ j, j < i → v (b + j) = v' (b + j)) → ∀ t, t < 10 * cntR q b i → (tq q v b tx i).2 t = (tq q' v' b tx' i).2 t
  | 0, _, _, t, ht => by
    have : t < 10 * 0 := ht
    omega
  | i + 1, hq, hv, t, ht => by
    have ih := tq_same (tx := tx) (tx' := tx') i (fun j hj => hq j (by omega)) (fun j hj => hv j (by omega))
    have el : (tq q v b tx i).1 = (tq q' v' b tx' i).1 := by rw [tq_len, tq_len, cntR_congr (fun j hj => hq j (Nat.lt_succ_of_lt hj))]
    cases h : q (b + i)
    · have h' : q' (b + i) = false := by rw [← hq i (by omega)]; exact h
      rw [tq_f h, tq_f h']
      rw [cntR_f h] at ht
      exact ih t ht
    · have h' : q' (b + i) = true := by rw [← hq i (by omega)]; exact h
      rw [tq_t h, tq_t h']
      rw [cntR_t h] at ht
      show rowT (v (b + i)) (b + i) (tq q v b tx i).1 (tq q v b tx i).2 8 t = rowT (v' (b + i)) (b + i) (tq q' v' b tx' i).1 (tq q' v' b tx' i).2 8 t
      rw [← el, ← hv i (by omega)]
      exact rowT_same (fun t ht => ih t (by rw [tq_len] at ht; exact ht)) t (by rw [tq_len]; omega)
theorem rowS_stm (v : Int64) (k n : Nat) (x0 : stT) (tx : Nat → Int32) : rowS v k (n, stm tx 0 x0 n) = (n + 1 + 1 + 8, stm (rowT v k n tx 8) 0 x0 (n + 1 + 1 + 8)) := by
  unfold rowS
  show (n + 1 + 1 + 8, tkL v 8 (n + 1 + 1) (tkL (Int32.toInt64 (nI (k % 64 + 1))) 1 (n + 1) (tkL (Int32.toInt64 (nI (k / 64))) 1 n (stm tx 0 x0 n)))) = _
  rw [stm_congr (B' := rowT v k n tx 8) (fun t _ ht => (rowT_lt 8 (by omega)).symm), tkL_stm (row_b0 v k n tx), tkL_stm (row_b1 v k n tx), tkL_stm (row_b2 v k n tx), stm_add _ 0 x0 (n + 1 + 1) 8, stm_add _ 0 x0 (n + 1) 1, stm_add _ 0 x0 n 1, Nat.zero_add, Nat.zero_add, Nat.zero_add]
theorem hlL_tq (pr : Nat → Bool) (va : Nat → Int64) (b : Nat) (x0 : stT) (tx : Nat → Int32) : ∀ i, hlL pr va b (0, x0) i = ((tq pr va b tx i).1, stm (tq pr va b tx i).2 0 x0 (tq pr va b tx i).1)
  | 0 => rfl
  | i + 1 => by
    have ih := hlL_tq pr va b x0 tx i
    cases h : pr (b + i)
    · rw [hlL_f h, tq_f h]; exact ih
    · rw [hlL_t h, tq_t h, ih, rowS_stm]
/-- a leaf's digest and sum, of the rows b .. b + 7 that count -/
def lfD (q : Nat → Bool) (v : Nat → Int64) (b j : Nat) : Int32 := if cntR q b 8 = 0 then 0 else sD (tq q v b (fun _ => 0) 8).2 (10 * cntR q b 8) j
def lfS (q : Nat → Bool) (v : Nat → Int64) (b : Nat) : Int32 := if cntR q b 8 = 0 then 0 else fldT (tq q v b (fun _ => 0) 8).2 (10 * cntR q b 8)
theorem lfD_congr {q q' : Nat → Bool} {v v' : Nat → Int64} {b : Nat} (hq : ∀ j, j < 8 → q (b + j) = q' (b + j)) (hv : ∀ j, j < 8 → v (b + j) = v' (b + j)) (j : Nat) : lfD q v b j = lfD q' v' b j := by
  unfold lfD
  rw [← cntR_congr hq, sD_congr (tq_same 8 hq hv)]
theorem lfS_congr {q q' : Nat → Bool} {v v' : Nat → Int64} {b : Nat} (hq : ∀ j, j < 8 → q (b + j) = q' (b + j)) (hv : ∀ j, j < 8 → v (b + j) = v' (b + j)) : lfS q v b = lfS q' v' b := by
  unfold lfS
  rw [← cntR_congr hq, fldT_congr (tq_same 8 hq hv)]
theorem zero8_k (f : Nat → Int32) {k : Nat} (hk : k < 8) : zero8 f k = 0 := by
  match k, hk with
  | 0, _ => rfl
  | 1, _ => rfl
  | 2, _ => rfl
  | 3, _ => rfl
  | 4, _ => rfl
  | 5, _ => rfl
  | 6, _ => rfl
  | 7, _ => rfl
  | k + 8, hk => omega
theorem st0_k (x : shaT) {k : Nat} (hk : k < 8) : (st0 x).2.1 k = sha_H k := by
  show va_cpy sha_H x.2.1 0 0 8 k = _
  rw [pk_cpy_in (by omega) (by omega)]
  congr 1
  omega
theorem hashL_w {c : Int32} {pr q : Nat → Bool} {va v : Nat → Int64} {b : Nat} {x : shaT} (hc : c = nI (cntR q b 8)) (hv : ∀ j, j < 8 → va (b + j) = v (b + j)) (hq : cntR q b 8 ≠ 0 → ∀ j, j < 8 → q (b + j) = pr (b + j)) : ∀ j, j < 8 → (hashL c pr va b x).2.1 j = lfD q v b j := by
  intro j hj
  unfold hashL lfD
  have hle := cntR_le q b 8
  by_cases h : cntR q b 8 = 0
  · rw [if_pos h, if_pos (by rw [hc, h]; rfl)]
    exact zero8_k _ hj
  · rw [if_neg h, if_neg (by rw [hc]; exact nI_ne0 (by omega) (by omega))]
    have hp := hq h
    show (fin (hlL pr va b (0, (st0 x).2) 8)).2.1 j = _
    rw [hlL_tq pr va b (st0 x).2 (fun _ => 0) 8]
    show (finS (tq pr va b (fun _ => 0) 8).1 (stm (tq pr va b (fun _ => 0) 8).2 0 (st0 x).2 (tq pr va b (fun _ => 0) 8).1)).1 j = _
    rw [tq_len, ← cntR_congr hp, sD_cls (by omega) (fun k hk => st0_k x hk) j hj, sD_congr (fun t ht => (tq_same (tx := fun _ => 0) (tx' := fun _ => 0) 8 hp (fun i hi => (hv i hi).symm) t ht).symm)]
theorem sumF_z (pr : Nat → Bool) (va : Nat → Int64) (b : Nat) : sumF pr va b 0 = nI 0 := rfl
theorem fldT_z (tx : Nat → Int32) : fldT tx 0 = nI 0 := rfl
theorem tq_z (q : Nat → Bool) (v : Nat → Int64) (b : Nat) (tx : Nat → Int32) : tq q v b tx 0 = (0, tx) := rfl
theorem fin_w (n : Nat) (y : stT) : (fin (n, y)).2.1 = (finS n y).1 := rfl
theorem sumF_tq (pr : Nat → Bool) (va : Nat → Int64) (b : Nat) (tx : Nat → Int32) (i : Nat) : sumF pr va b i = fldT (tq pr va b tx i).2 (tq pr va b tx i).1 := by
  induction i with
  | zero => rw [sumF_z, tq_z, fldT_z]
  | succ i ih =>
    cases h : pr (b + i)
    · rw [sumF_f h, tq_f h]; exact ih
    · have e2 := tq_t (v := va) (tx := tx) h
      rw [sumF_t h, ih, e2]
      generalize tq pr va b tx i = x
      exact mixR_fld (va (b + i)) (b + i) x.1 x.2
theorem leafSum_w {ct : Nat → Int32} {pr q : Nat → Bool} {va v : Nat → Int64} {k : Nat} (hc : ct k = nI (cntR q (8 * (k - 32)) 8)) (hv : ∀ j, j < 8 → va (8 * (k - 32) + j) = v (8 * (k - 32) + j)) (hq : cntR q (8 * (k - 32)) 8 ≠ 0 → ∀ j, j < 8 → q (8 * (k - 32) + j) = pr (8 * (k - 32) + j)) : leafSumV ct pr va k = lfS q v (8 * (k - 32)) := by
  unfold leafSumV lfS
  have hle := cntR_le q (8 * (k - 32)) 8
  by_cases h : cntR q (8 * (k - 32)) 8 = 0
  · rw [if_pos h, if_pos (by rw [hc, h]; rfl)]; rfl
  · rw [if_neg h, if_neg (by rw [hc]; exact nI_ne0 (by omega) (by omega))]
    have hp := hq h
    rw [sumF_tq pr va _ (fun _ => 0) 8, tq_len, ← cntR_congr hp, fldT_congr (fun t ht => (tq_same (tx := fun _ => 0) (tx' := fun _ => 0) 8 hp (fun i hi => (hv i hi).symm) t ht).symm)]
/-- the bytes of words -/
def bB (f : Nat → Int32) (b t : Nat) : Int32 := byt (f (b + t / 4)) (t % 4)
theorem bB_4 (f : Nat → Int32) (b i : Nat) : ∀ j, j < 4 → bB f b (4 * i + j) = byteAt (Int32.toInt64 (f (b + i))) (4 - j - 1) := by
  intro j hj
  unfold bB
  rw [show (4 * i + j) / 4 = i by omega, show (4 * i + j) % 4 = j by omega, ← byt_by hj, show 4 - j - 1 = 3 - j by omega]
theorem hiL_stm (dg : Nat → Int32) (b : Nat) (y : stT) : ∀ i, hiL dg b y i = stm (bB dg b) 0 y (4 * i)
  | 0 => rfl
  | i + 1 => by
    show tkL (Int32.toInt64 (dg (b + i))) 4 (4 * i) (hiL dg b y i) = _
    rw [hiL_stm dg b y i, tkL_stm (bB_4 dg b i), show 4 * (i + 1) = 4 * i + 4 by omega, stm_add _ 0 y (4 * i) 4, Nat.zero_add]
def inD (c : Int32) (f : Nat → Int32) (b j : Nat) : Int32 := if c = 0 then 0 else sD (bB f b) 64 j
def inS (c : Int32) (f : Nat → Int32) (r : Nat) : Int32 := if c = 0 then 0 else fldT (bB f (2 * r)) 8
theorem bB_congr {f g : Nat → Int32} {b n : Nat} (h : ∀ j, j < n → f (b + j) = g (b + j)) : ∀ t, t < 4 * n → bB f b t = bB g b t := by
  intro t ht
  unfold bB
  rw [h (t / 4) (by omega)]
theorem inD_congr {c : Int32} {f g : Nat → Int32} {b : Nat} (h : ∀ j, j < 16 → f (b + j) = g (b + j)) (j : Nat) : inD c f b j = inD c g b j := by
  unfold inD
  rw [sD_congr (bB_congr h)]
theorem inS_congr {c : Int32} {f g : Nat → Int32} {r : Nat} (h : ∀ j, j < 2 → f (2 * r + j) = g (2 * r + j)) : inS c f r = inS c g r := by
  unfold inS
  rw [fldT_congr (bB_congr h)]
theorem hashI_w {c : Int32} {dg : Nat → Int32} {b : Nat} {x : shaT} : ∀ j, j < 8 → (hashI c dg b x).2.1 j = inD c dg b j := by
  intro j hj
  unfold hashI inD
  by_cases h : c = 0
  · rw [if_pos h, if_pos h]
    exact zero8_k _ hj
  · rw [if_neg h, if_neg h, hiL_stm, show 4 * 16 = 64 from rfl]
    rw [fin_w]
    exact sD_cls (n := 64) (by decide) (fun k hk => st0_k x hk) j hj
theorem innerSum_w (ct sm : Nat → Int32) (r : Nat) : innerSumV ct sm r = inS (ct r) sm r := by
  unfold innerSumV inS
  by_cases h : ct r = 0
  · rw [if_pos h, if_pos h]; rfl
  · rw [if_neg h, if_neg h]
    have e1 := mixL_fld (v := Int32.toInt64 (sm (2 * r))) (m := 4) (n := 0) (B := bB sm (2 * r)) (bB_4 sm (2 * r) 0)
    have e2 := mixL_fld (v := Int32.toInt64 (sm (2 * r + 1))) (m := 4) (n := 4) (B := bB sm (2 * r)) (bB_4 sm (2 * r) 1)
    have e3 : mixL (Int32.toInt64 (sm (2 * r))) 4 (nI 0) = fldT (bB sm (2 * r)) 4 := e1
    rw [e3, e2]
/-- digests, sums and counts are those of the rows, in the ranges of which P is so -/
def TR (q : Nat → Bool) (v : Nat → Int64) (D S C : Nat → Int32) (P : Nat → Prop) : Prop :=
  (∀ k, 32 ≤ k → k < 64 → P k → (∀ j, j < 8 → D (8 * k + j) = lfD q v (8 * (k - 32)) j) ∧ S k = lfS q v (8 * (k - 32)) ∧ C k = nI (cntR q (8 * (k - 32)) 8)) ∧
  (∀ r, 1 ≤ r → r < 32 → P r → (∀ j, j < 8 → D (8 * r + j) = inD (C r) D (16 * r) j) ∧ S r = inS (C r) S r ∧ C r = C (2 * r) + C (2 * r + 1))
theorem TR.less {q : Nat → Bool} {v : Nat → Int64} {D S C : Nat → Int32} {P P' : Nat → Prop} (h : TR q v D S C P) (hp : ∀ r, 1 ≤ r → r < 64 → P' r → P r) : TR q v D S C P' :=
  ⟨fun k h1 h2 h3 => h.1 k h1 h2 (hp k (by omega) h2 h3), fun r h1 h2 h3 => h.2 r h1 h2 (hp r h1 (by omega) h3)⟩
theorem TR.rows {q q' : Nat → Bool} {v v' : Nat → Int64} {D S C : Nat → Int32} {P : Nat → Prop} (h : TR q v D S C P) (hp : ∀ k, 32 ≤ k → k < 64 → P k → ∀ j, j < 8 → q (8 * (k - 32) + j) = q' (8 * (k - 32) + j) ∧ v (8 * (k - 32) + j) = v' (8 * (k - 32) + j)) : TR q' v' D S C P := by
  refine ⟨fun k h1 h2 h3 => ?_, h.2⟩
  obtain ⟨a, b, c⟩ := h.1 k h1 h2 h3
  have hq : ∀ j, j < 8 → q (8 * (k - 32) + j) = q' (8 * (k - 32) + j) := fun j hj => (hp k h1 h2 h3 j hj).1
  have hv : ∀ j, j < 8 → v (8 * (k - 32) + j) = v' (8 * (k - 32) + j) := fun j hj => (hp k h1 h2 h3 j hj).2
  exact ⟨fun j hj => (a j hj).trans (lfD_congr hq hv j), b.trans (lfS_congr hq hv), c.trans (by rw [cntR_congr hq])⟩
theorem rmL_TR {q pr : Nat → Bool} {v va : Nat → Int64} {x : rmT} {P : Nat → Prop} {k : Nat} (h : TR q v x.1 x.2.1 x.2.2.1 P) (h1 : 32 ≤ k) (h2 : k < 64) (hv : ∀ j, j < 8 → va (8 * (k - 32) + j) = v (8 * (k - 32) + j)) (hq : cntR q (8 * (k - 32)) 8 ≠ 0 → ∀ j, j < 8 → q (8 * (k - 32) + j) = pr (8 * (k - 32) + j)) :
    TR q v (rmL pr va q k x).1 (rmL pr va q k x).2.1 (rmL pr va q k x).2.2.1 (fun r => r = k ∨ (P r ∧ r ≠ k / 2)) := by
  have ec : va_up x.2.2.1 k (nI (cntR q (8 * (k - 32)) 8)) k = nI (cntR q (8 * (k - 32)) 8) := va_up_at _ _ _
  refine ⟨fun k0 g1 g2 g3 => ?_, fun r g1 g2 g3 => ?_⟩
  · by_cases e : k0 = k
    · subst e
      refine ⟨fun j hj => ?_, ?_, ec⟩
      · show cp8 x.1 (8 * k0) _ 8 (8 * k0 + j) = _
        rw [cp8_in hj]
        exact hashL_w ec hv hq j hj
      · show va_up x.2.1 k0 _ k0 = _
        rw [va_up_at]
        exact leafSum_w ec hv hq
    · obtain ⟨a, b, c⟩ := h.1 k0 g1 g2 (by rcases g3 with g3 | g3; exact absurd g3 e; exact g3.1)
      refine ⟨fun j hj => ?_, ?_, ?_⟩
      · show cp8 x.1 (8 * k) _ 8 (8 * k0 + j) = _
        rw [cp8_off 8 (by omega)]
        exact a j hj
      · show va_up x.2.1 k _ k0 = _
        rw [va_up_off _ _ e]
        exact b
      · show va_up x.2.2.1 k _ k0 = _
        rw [va_up_off _ _ e]
        exact c
  · have e : r ≠ k := by omega
    obtain ⟨g3, g4⟩ : P r ∧ r ≠ k / 2 := by rcases g3 with g3 | g3; exact absurd g3 e; exact g3
    obtain ⟨a, b, c⟩ := h.2 r g1 g2 g3
    have er : va_up x.2.2.1 k (nI (cntR q (8 * (k - 32)) 8)) r = x.2.2.1 r := va_up_off _ _ e
    refine ⟨fun j hj => ?_, ?_, ?_⟩
    · show cp8 x.1 (8 * k) _ 8 (8 * r + j) = inD (va_up x.2.2.1 k _ r) (cp8 x.1 (8 * k) _ 8) (16 * r) j
      rw [cp8_off 8 (by omega), er, a j hj]
      exact inD_congr (fun i hi => (cp8_off 8 (by omega)).symm) j
    · show va_up x.2.1 k _ r = inS (va_up x.2.2.1 k _ r) (va_up x.2.1 k _) r
      rw [va_up_off _ _ e, er, b]
      exact inS_congr (fun i hi => (va_up_off _ _ (by omega)).symm)
    · show va_up x.2.2.1 k _ r = va_up x.2.2.1 k _ (2 * r) + va_up x.2.2.1 k _ (2 * r + 1)
      rw [er, va_up_off _ _ (by omega), va_up_off _ _ (by omega)]
      exact c
theorem rmI_TR {q : Nat → Bool} {v : Nat → Int64} {x : rmT} {P : Nat → Prop} {k : Nat} (h : TR q v x.1 x.2.1 x.2.2.1 P) (h1 : 1 ≤ k) (h2 : k < 32) : TR q v (rmI k x).1 (rmI k x).2.1 (rmI k x).2.2.1 (fun r => r = k ∨ (P r ∧ r ≠ k / 2)) := by
  have ec : va_up x.2.2.1 k (x.2.2.1 (2 * k) + x.2.2.1 (2 * k + 1)) k = x.2.2.1 (2 * k) + x.2.2.1 (2 * k + 1) := va_up_at _ _ _
  refine ⟨fun k0 g1 g2 g3 => ?_, fun r g1 g2 g3 => ?_⟩
  · have e : k0 ≠ k := by omega
    obtain ⟨a, b, c⟩ := h.1 k0 g1 g2 (by rcases g3 with g3 | g3; exact absurd g3 e; exact g3.1)
    refine ⟨fun j hj => ?_, ?_, ?_⟩
    · show cp8 x.1 (8 * k) _ 8 (8 * k0 + j) = _
      rw [cp8_off 8 (by omega)]
      exact a j hj
    · show va_up x.2.1 k _ k0 = _
      rw [va_up_off _ _ e]
      exact b
    · show va_up x.2.2.1 k _ k0 = _
      rw [va_up_off _ _ e]
      exact c
  · by_cases e : r = k
    · subst e
      refine ⟨fun j hj => ?_, ?_, ?_⟩
      · show cp8 x.1 (8 * r) _ 8 (8 * r + j) = inD (va_up x.2.2.1 r _ r) (cp8 x.1 (8 * r) _ 8) (16 * r) j
        rw [cp8_in hj, hashI_w j hj]
        exact inD_congr (fun i hi => (cp8_off 8 (by omega)).symm) j
      · show va_up x.2.1 r _ r = inS (va_up x.2.2.1 r _ r) (va_up x.2.1 r _) r
        rw [va_up_at, innerSum_w]
        exact inS_congr (fun i hi => (va_up_off _ _ (by omega)).symm)
      · show va_up x.2.2.1 r _ r = va_up x.2.2.1 r _ (2 * r) + va_up x.2.2.1 r _ (2 * r + 1)
        rw [va_up_at, va_up_off _ _ (by omega), va_up_off _ _ (by omega)]
    · obtain ⟨g3, g4⟩ : P r ∧ r ≠ k / 2 := by rcases g3 with g3 | g3; exact absurd g3 e; exact g3
      obtain ⟨a, b, c⟩ := h.2 r g1 g2 g3
      have er : va_up x.2.2.1 k (x.2.2.1 (2 * k) + x.2.2.1 (2 * k + 1)) r = x.2.2.1 r := va_up_off _ _ e
      refine ⟨fun j hj => ?_, ?_, ?_⟩
      · show cp8 x.1 (8 * k) _ 8 (8 * r + j) = inD (va_up x.2.2.1 k _ r) (cp8 x.1 (8 * k) _ 8) (16 * r) j
        rw [cp8_off 8 (by omega), er, a j hj]
        exact inD_congr (fun i hi => (cp8_off 8 (by omega)).symm) j
      · show va_up x.2.1 k _ r = inS (va_up x.2.2.1 k _ r) (va_up x.2.1 k _) r
        rw [va_up_off _ _ e, er, b]
        exact inS_congr (fun i hi => (va_up_off _ _ (by omega)).symm)
      · show va_up x.2.2.1 k _ r = va_up x.2.2.1 k _ (2 * r) + va_up x.2.2.1 k _ (2 * r + 1)
        rw [er, va_up_off _ _ (by omega), va_up_off _ _ (by omega)]
        exact c
/-- all but the ranges lo .. hi and those right above them -/
def PX (lo hi l2 h2 r : Nat) : Prop := ¬ (lo ≤ r ∧ r ≤ hi) ∧ ¬ (l2 ≤ r ∧ r ≤ h2)
theorem rmLs_TR {q pr : Nat → Bool} {v va : Nat → Int64} {fi la : Nat} (h1 : 32 ≤ fi) (h2 : la < 64) (hl : ∀ k, fi ≤ k → k ≤ la → (∀ j, j < 8 → va (8 * (k - 32) + j) = v (8 * (k - 32) + j)) ∧ (cntR q (8 * (k - 32)) 8 ≠ 0 → ∀ j, j < 8 → q (8 * (k - 32) + j) = pr (8 * (k - 32) + j))) {x : rmT} (h : TR q v x.1 x.2.1 x.2.2.1 (PX fi la (fi / 2) (la / 2))) :
    ∀ i, fi + i ≤ la + 1 → TR q v (rmLs pr va q fi x i).1 (rmLs pr va q fi x i).2.1 (rmLs pr va q fi x i).2.2.1 (PX (fi + i) la (fi / 2) (la / 2))
  | 0, _ => h
  | i + 1, hi => by
    have ih := rmLs_TR h1 h2 hl h i (by omega)
    obtain ⟨hv, hq⟩ := hl (fi + i) (by omega) (by omega)
    exact (rmL_TR ih (by omega) (by omega) hv hq).less (fun r _ _ hr => by
      unfold PX at hr ⊢
      by_cases e : r = fi + i
      · exact Or.inl e
      · exact Or.inr ⟨⟨by omega, hr.2⟩, by omega⟩)
theorem rmIs_TR {q : Nat → Bool} {v : Nat → Int64} {lo hi : Nat} (h1 : 1 ≤ lo) (h2 : hi < 32) {x : rmT} (h : TR q v x.1 x.2.1 x.2.2.1 (PX lo hi (lo / 2) (hi / 2))) :
    ∀ i, lo + i ≤ hi + 1 → TR q v (rmIs lo x i).1 (rmIs lo x i).2.1 (rmIs lo x i).2.2.1 (PX (lo + i) hi (lo / 2) (hi / 2))
  | 0, _ => h
  | i + 1, hi' => by
    have ih := rmIs_TR h1 h2 h i (by omega)
    exact (rmI_TR ih (by omega) (by omega)).less (fun r _ _ hr => by
      unfold PX at hr ⊢
      by_cases e : r = lo + i
      · exact Or.inl e
      · exact Or.inr ⟨⟨by omega, hr.2⟩, by omega⟩)
theorem rmUp_TR {q : Nat → Bool} {v : Nat → Int64} {fi la : Nat} (h1 : 32 ≤ fi) (h2 : fi ≤ la) (h3 : la < 64) {x : rmT} (h : TR q v x.1 x.2.1 x.2.2.1 (fun r => ¬ (fi / 2 ≤ r ∧ r ≤ la / 2))) :
    ∀ d, d ≤ 5 → TR q v (rmUp (fi / 2) (la / 2) x d).1 (rmUp (fi / 2) (la / 2) x d).2.1 (rmUp (fi / 2) (la / 2) x d).2.2.1 (fun r => ¬ (hv (fi / 2) d ≤ r ∧ r ≤ hv (la / 2) d))
  | 0, _ => h
  | d + 1, hd => by
    have ih := rmUp_TR h1 h2 h3 h d (by omega)
    have a1 := (hv_in h1 (by omega)).1 d (by omega)
    have a2 := (hv_in (show 32 ≤ la by omega) h3).1 d (by omega)
    have a3 := hv_le (show fi / 2 ≤ la / 2 by omega) d
    have e1 : hv (fi / 2) (d + 1) = hv (fi / 2) d / 2 := rfl
    have e2 : hv (la / 2) (d + 1) = hv (la / 2) d / 2 := rfl
    rw [e1, e2]
    show TR q v (rmIs (hv (fi / 2) d) (rmUp (fi / 2) (la / 2) x d) (hv (la / 2) d + 1 - hv (fi / 2) d)).1 (rmIs (hv (fi / 2) d) (rmUp (fi / 2) (la / 2) x d) (hv (la / 2) d + 1 - hv (fi / 2) d)).2.1 (rmIs (hv (fi / 2) d) (rmUp (fi / 2) (la / 2) x d) (hv (la / 2) d + 1 - hv (fi / 2) d)).2.2.1 _
    have := rmIs_TR (q := q) (v := v) (lo := hv (fi / 2) d) (hi := hv (la / 2) d) a1.1 a2.2 (ih.less (fun r _ _ hr => hr.1)) (hv (la / 2) d + 1 - hv (fi / 2) d) (by omega)
    exact this.less (fun r _ _ hr => ⟨by omega, hr⟩)
theorem rmAll_TR {q pr : Nat → Bool} {v va : Nat → Int64} {fi la : Nat} (h1 : 32 ≤ fi) (h2 : fi ≤ la) (h3 : la < 64) (hl : ∀ k, fi ≤ k → k ≤ la → (∀ j, j < 8 → va (8 * (k - 32) + j) = v (8 * (k - 32) + j)) ∧ (cntR q (8 * (k - 32)) 8 ≠ 0 → ∀ j, j < 8 → q (8 * (k - 32) + j) = pr (8 * (k - 32) + j))) {x : rmT} (h : TR q v x.1 x.2.1 x.2.2.1 (PX fi la (fi / 2) (la / 2))) :
    TR q v (rmAll pr va q fi la x).1 (rmAll pr va q fi la x).2.1 (rmAll pr va q fi la x).2.2.1 (fun _ => True) := by
  have a := rmLs_TR h1 h3 hl h (la + 1 - fi) (by omega)
  have b := rmUp_TR h1 h2 h3 (a.less (fun r _ _ hr => ⟨by omega, hr⟩)) 5 (Nat.le_refl _)
  exact b.less (fun r hr _ _ => by
    rw [(hv_in h1 (by omega)).2, (hv_in (show 32 ≤ la by omega) h3).2]
    omega)
