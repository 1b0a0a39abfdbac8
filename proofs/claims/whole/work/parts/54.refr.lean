/-! the reference's ranges, made anew, are the class's -/
theorem cntR_add (f : Nat → Bool) (b n m : Nat) : cntR f b (n + m) = cntR f b n + cntR f (b + n) m := by
  induction m with
  | zero => rfl
  | succ m ih =>
    cases h : f (b + (n + m))
    · rw [show n + (m + 1) = n + m + 1 by omega, cntR_f h, cntR_f (by rw [Nat.add_assoc]; exact h)]; exact ih
    · rw [show n + (m + 1) = n + m + 1 by omega, cntR_t h, cntR_t (by rw [Nat.add_assoc]; exact h), ih]; omega
theorem lf_ok : ∀ r, r < 32 → 1 ≤ r → fLf (2 * r) = fLf r ∧ lLf (2 * r + 1) = lLf r ∧ lLf (2 * r) + 1 = fLf (2 * r + 1) ∧ fLf r ≤ lLf (2 * r) ∧ 32 ≤ fLf r ∧ fLf (2 * r + 1) ≤ lLf (2 * r + 1) := by decide +kernel
theorem mnN_leaf (kw hs : Nat → Bool) (sd : Nat) {r : Nat} (h : 32 ≤ r) : mnN kw hs sd r = cntR (qM kw hs sd) (8 * (r - 32)) 8 := by
  have e1 : fLf r = r := by unfold fLf nD; rw [if_pos h]; rfl
  have e2 : lLf r = r := by unfold lLf nD; rw [if_pos h]; rfl
  unfold mnN
  rw [e1, e2, show 8 * (r - 32) + 8 - 8 * (r - 32) = 8 by omega]
theorem mnN_in (kw hs : Nat → Bool) (sd : Nat) {r : Nat} (h1 : 1 ≤ r) (h2 : r < 32) : mnN kw hs sd r = mnN kw hs sd (2 * r) + mnN kw hs sd (2 * r + 1) := by
  obtain ⟨a, b, c, d, e, f⟩ := lf_ok r h2 h1
  unfold mnN
  rw [a, b]
  rw [b] at f
  have e1 : 8 * (lLf r - 32) + 8 - 8 * (fLf r - 32) = (8 * (lLf (2 * r) - 32) + 8 - 8 * (fLf r - 32)) + (8 * (lLf r - 32) + 8 - 8 * (fLf (2 * r + 1) - 32)) := by omega
  have e2 : 8 * (fLf r - 32) + (8 * (lLf (2 * r) - 32) + 8 - 8 * (fLf r - 32)) = 8 * (fLf (2 * r + 1) - 32) := by omega
  rw [e1, cntR_add, e2]
theorem TR_C {kw hs : Nat → Bool} {sd : Nat} {v : Nat → Int64} {D S C : Nat → Int32} (h : TR (qM kw hs sd) v D S C (fun _ => True)) : ∀ n r, 64 - r ≤ n → 1 ≤ r → r < 64 → C r = nI (mnN kw hs sd r)
  | 0, r, h0, h1, h2 => by omega
  | n + 1, r, h0, h1, h2 => by
    by_cases q : 32 ≤ r
    · rw [mnN_leaf kw hs sd q]
      exact (h.1 r q h2 trivial).2.2
    · rw [mnN_in kw hs sd h1 (by omega), (h.2 r h1 (by omega) trivial).2.2, TR_C h n (2 * r) (by omega) (by omega) (by omega), TR_C h n (2 * r + 1) (by omega) (by omega) (by omega), nI_add]
theorem z32_in (dg : Nat → Int32) (k : Nat) : ∀ i b, b < i → z32 dg k i (32 * k + b) = nI 0
  | 0, b, h => by omega
  | i + 1, b, h => by
    show va_up (z32 dg k i) (32 * k + i) (nI 0) (32 * k + b) = _
    by_cases q : b = i
    · rw [q, va_up_at]
    · rw [va_up_off _ _ (by omega)]
      exact z32_in dg k i b (by omega)
theorem z32_off (dg : Nat → Int32) (k : Nat) : ∀ i t, (t < 32 * k ∨ 32 * k + i ≤ t) → z32 dg k i t = dg t
  | 0, t, h => rfl
  | i + 1, t, h => by
    show va_up (z32 dg k i) (32 * k + i) (nI 0) t = _
    rw [va_up_off _ _ (by omega)]
    exact z32_off dg k i t (by omega)
theorem dgB_in (p : Nat) (dg ch : Nat → Int32) : ∀ i k, k < i → dgB p dg ch i (p + k) = byt (ch (k / 4)) (k % 4)
  | 0, k, h => by omega
  | i + 1, k, h => by
    show va_up (dgB p dg ch i) (p + i) (byt (ch (i / 4)) (i % 4)) (p + k) = _
    by_cases q : k = i
    · rw [q, va_up_at]
    · rw [va_up_off _ _ (by omega)]
      exact dgB_in p dg ch i k (by omega)
theorem dgB_off (p : Nat) (dg ch : Nat → Int32) : ∀ i t, (t < p ∨ p + i ≤ t) → dgB p dg ch i t = dg t
  | 0, t, h => rfl
  | i + 1, t, h => by
    show va_up (dgB p dg ch i) (p + i) (byt (ch (i / 4)) (i % 4)) t = _
    rw [va_up_off _ _ (by omega)]
    exact dgB_off p dg ch i t (by omega)
theorem inT_in (dg : Nat → Int32) (lw : Nat) (tx : Nat → Int32) : ∀ i b, b < i → inT dg lw tx i b = dg (32 * lw + b) &&& nI 255
  | 0, b, h => by omega
  | i + 1, b, h => by
    show va_up (inT dg lw tx i) i (dg (32 * lw + i) &&& nI 255) b = _
    by_cases q : b = i
    · rw [q, va_up_at]
    · rw [va_up_off _ _ q]
      exact inT_in dg lw tx i b (by omega)
theorem smT1_in (v : Int32) (o : Nat) (tx : Nat → Int32) : ∀ i j, j < i → smT1 v o tx i (o + j) = byt v j
  | 0, j, h => by omega
  | i + 1, j, h => by
    show va_up (smT1 v o tx i) (o + i) (byt v i) (o + j) = _
    by_cases q : j = i
    · rw [q, va_up_at]
    · rw [va_up_off _ _ (by omega)]
      exact smT1_in v o tx i j (by omega)
theorem smT1_off (v : Int32) (o : Nat) (tx : Nat → Int32) : ∀ i t, t < o → smT1 v o tx i t = tx t
  | 0, t, h => rfl
  | i + 1, t, h => by
    show va_up (smT1 v o tx i) (o + i) (byt v i) t = _
    rw [va_up_off _ _ (by omega)]
    exact smT1_off v o tx i t h
theorem smT_in (sm : Nat → Int32) (lw : Nat) (tx : Nat → Int32) : ∀ i t, t < 4 * i → smT sm lw tx i t = bB sm lw t
  | 0, t, h => by omega
  | i + 1, t, h => by
    show smT1 (sm (lw + i)) (4 * i) (smT sm lw tx i) 4 t = _
    by_cases q : t < 4 * i
    · rw [smT1_off _ _ _ 4 t q]
      exact smT_in sm lw tx i t q
    · obtain ⟨j, rfl⟩ : ∃ j, t = 4 * i + j := ⟨t - 4 * i, by omega⟩
      rw [smT1_in _ _ _ 4 j (by omega)]
      unfold bB
      rw [show (4 * i + j) / 4 = i by omega, show (4 * i + j) % 4 = j by omega]
theorem byt_0 : ∀ j, j < 4 → byt 0 j = 0 := by decide +kernel
/-- the reference's range r of side sd is the class's -/
def RR (sd : Nat) (D S dg sm : Nat → Int32) (r : Nat) : Prop := (∀ b, b < 32 → dg (32 * (64 * sd + r) + b) = byt (D (8 * r + b / 4)) (b % 4)) ∧ sm (64 * sd + r) = S r
theorem mkE_off {kw hs : Nat → Bool} {kv : Nat → Int64} {rd : Nat → Int32} {sd r : Nat} {x : mkT} : (∀ t, (t < 32 * (64 * sd + r) ∨ 32 * (64 * sd + r) + 32 ≤ t) → (mkE kw hs kv rd sd r x).1 t = x.1 t) ∧ ∀ t, t ≠ 64 * sd + r → (mkE kw hs kv rd sd r x).2.1 t = x.2.1 t := by
  unfold mkE
  split
  · refine ⟨fun t ht => z32_off _ _ 32 t ht, fun t ht => ?_⟩
    show va_up x.2.1 (64 * sd + r) (nI 0) t = _
    rw [va_up_off _ _ ht]
  · split
    · refine ⟨fun t ht => ?_, fun t ht => ?_⟩
      · show dgB _ _ _ 32 t = _
        rw [dgB_off _ _ _ 32 t ht]
        exact z32_off _ _ 32 t ht
      · show va_up (va_up x.2.1 (64 * sd + r) (nI 0)) (64 * sd + r) _ t = _
        rw [va_up_off _ _ ht, va_up_off _ _ ht]
    · refine ⟨fun t ht => ?_, fun t ht => ?_⟩
      · show dgB _ _ _ 32 t = _
        rw [dgB_off _ _ _ 32 t ht]
        exact z32_off _ _ 32 t ht
      · show va_up (va_up x.2.1 (64 * sd + r) (nI 0)) (64 * sd + r) _ t = _
        rw [va_up_off _ _ ht, va_up_off _ _ ht]
theorem mkE_RR {kw hs : Nat → Bool} {kv : Nat → Int64} {rd : Nat → Int32} {sd r : Nat} {x : mkT} {D S C : Nat → Int32} (h : TR (qM kw hs sd) (fun k => kv (256 * sd + k)) D S C (fun _ => True)) (hr : ∀ t, t < 64 → rd t = sha_K t) (h1 : 1 ≤ r) (h2 : r < 64) (hk : r < 32 → RR sd D S x.1 x.2.1 (2 * r) ∧ RR sd D S x.1 x.2.1 (2 * r + 1)) :
    RR sd D S (mkE kw hs kv rd sd r x).1 (mkE kw hs kv rd sd r x).2.1 r := by
  have hC := TR_C h 64 r (by omega) h1 h2
  have hlt := mnN_lt kw hs sd r h1 h2
  unfold mkE
  split
  · rename_i h0
    rw [h0] at hC
    have hD : ∀ j, j < 8 → D (8 * r + j) = 0 := by
      intro j hj
      by_cases q : 32 ≤ r
      · rw [(h.1 r q h2 trivial).1 j hj]
        unfold lfD
        rw [if_pos (by rw [← mnN_leaf kw hs sd q]; exact h0)]
      · rw [(h.2 r h1 (by omega) trivial).1 j hj]
        unfold inD
        rw [if_pos (by rw [hC]; rfl)]
    have hS : S r = 0 := by
      by_cases q : 32 ≤ r
      · rw [(h.1 r q h2 trivial).2.1]
        unfold lfS
        rw [if_pos (by rw [← mnN_leaf kw hs sd q]; exact h0)]
      · rw [(h.2 r h1 (by omega) trivial).2.1]
        unfold inS
        rw [if_pos (by rw [hC]; rfl)]
    refine ⟨fun b hb => ?_, ?_⟩
    · show z32 x.1 (64 * sd + r) 32 (32 * (64 * sd + r) + b) = _
      rw [z32_in _ _ 32 b hb, hD _ (by omega), byt_0 _ (by omega)]; rfl
    · show va_up x.2.1 (64 * sd + r) (nI 0) (64 * sd + r) = _
      rw [va_up_at, hS]; rfl
  · rename_i h0
    have hC0 : ¬ C r = 0 := by rw [hC]; exact nI_ne0 (by omega) (by omega)
    split
    · rename_i h3
      obtain ⟨a, b, -⟩ := h.2 r h1 h3 trivial
      obtain ⟨ra, rb⟩ := hk h3
      have ht : ∀ t, t < 64 → miT sd r x t = bB D (16 * r) t := by
        intro t ht
        unfold miT
        rw [inT_in _ _ _ 64 t ht, z32_off _ _ 32 _ (by omega)]
        unfold bB
        by_cases q : t < 32
        · rw [ra.1 t q, byt_and (by omega), show 8 * (2 * r) + t / 4 = 16 * r + t / 4 by omega]
        · have e := rb.1 (t - 32) (by omega)
          rw [show 32 * (64 * sd + (2 * r + 1)) + (t - 32) = 32 * (64 * sd + 2 * r) + t by omega] at e
          rw [e, byt_and (by omega), show 8 * (2 * r + 1) + (t - 32) / 4 = 16 * r + t / 4 by omega, show (t - 32) % 4 = t % 4 by omega]
      refine ⟨fun t ht2 => ?_, ?_⟩
      · show dgB (32 * (64 * sd + r)) _ (miD rd sd r x).1 32 (32 * (64 * sd + r) + t) = _
        rw [dgB_in _ _ _ 32 t ht2, a _ (by omega)]
        unfold inD miD
        rw [if_neg hC0, sD_ref (by decide) _ hr _ (by omega), sD_congr ht]
      · show va_up (va_up x.2.1 (64 * sd + r) (nI 0)) (64 * sd + r) (fldT (miS sd r x) 8) (64 * sd + r) = _
        rw [va_up_at, b]
        unfold inS miS
        rw [if_neg hC0]
        refine fldT_congr (fun t ht2 => ?_)
        rw [smT_in _ _ _ 2 t ht2]
        unfold bB
        rw [va_up_off _ _ (by omega)]
        rcases (by omega : t / 4 = 0 ∨ t / 4 = 1) with q | q
        · rw [q, Nat.add_zero, Nat.add_zero, ra.2]
        · rw [q, Nat.add_assoc, rb.2]
    · rename_i h3
      obtain ⟨a, b, -⟩ := h.1 r (by omega) h2 trivial
      have hm := mnN_leaf kw hs sd (show 32 ≤ r by omega)
      have hle := mnN_le kw hs sd r (by omega) h2
      have hc0 : ¬ cntR (qM kw hs sd) (8 * (r - 32)) 8 = 0 := by rw [← hm]; exact h0
      have hlen : (lfT kw hs kv sd (8 * (r - 32)) x.2.2.1.2 8).1 = 10 * cntR (qM kw hs sd) (8 * (r - 32)) 8 := by rw [lfT_tq, tq_len]
      have htx : ∀ t, t < 10 * cntR (qM kw hs sd) (8 * (r - 32)) 8 → (lfT kw hs kv sd (8 * (r - 32)) x.2.2.1.2 8).2 t = (tq (qM kw hs sd) (fun k => kv (256 * sd + k)) (8 * (r - 32)) (fun _ => 0) 8).2 t := by
        intro t ht
        rw [lfT_tq]
        exact tq_same 8 (fun _ _ => rfl) (fun _ _ => rfl) t ht
      refine ⟨fun t ht2 => ?_, ?_⟩
      · show dgB (32 * (64 * sd + r)) _ (dgM rd (lfT kw hs kv sd (8 * (r - 32)) x.2.2.1.2 8).1 (lfT kw hs kv sd (8 * (r - 32)) x.2.2.1.2 8).2 x.2.2.2).1 32 (32 * (64 * sd + r) + t) = _
        rw [dgB_in _ _ _ 32 t ht2, a _ (by omega), hlen, sD_ref (by omega) _ hr _ (by omega), sD_congr htx]
        unfold lfD
        rw [if_neg hc0]
      · show va_up (va_up x.2.1 (64 * sd + r) (nI 0)) (64 * sd + r) (fldT (padT (lfT kw hs kv sd (8 * (r - 32)) x.2.2.1.2 8).1 (lfT kw hs kv sd (8 * (r - 32)) x.2.2.1.2 8).2) (10 * mnN kw hs sd r)) (64 * sd + r) = _
        rw [va_up_at, b, hm, hlen]
        unfold lfS
        rw [if_neg hc0]
        exact fldT_congr (fun t ht2 => by rw [padT_lt _ ht2]; exact htx t ht2)
theorem RR.keep {sd r : Nat} {D S dg sm dg' sm' : Nat → Int32} (h : RR sd D S dg sm r) (hd : ∀ b, b < 32 → dg' (32 * (64 * sd + r) + b) = dg (32 * (64 * sd + r) + b)) (hs : sm' (64 * sd + r) = sm (64 * sd + r)) : RR sd D S dg' sm' r :=
  ⟨fun b hb => (hd b hb).trans (h.1 b hb), hs.trans h.2⟩
theorem rfL_ok {kw hs : Nat → Bool} {kv : Nat → Int64} {rd : Nat → Int32} {sd : Nat} {x : mkT} {D S C : Nat → Int32} (h : TR (qM kw hs sd) (fun k => kv (256 * sd + k)) D S C (fun _ => True)) (hr : ∀ t, t < 64 → rd t = sha_K t) :
    ∀ j, j ≤ 63 → ∀ r, 64 - j ≤ r → r < 64 → RR sd D S (rfL kw hs kv rd sd x j).1 (rfL kw hs kv rd sd x j).2.1 r
  | 0, _, r, h1, h2 => by omega
  | j + 1, hj, r, h1, h2 => by
    have ih := rfL_ok (x := x) h hr j (by omega)
    show RR sd D S (mkE kw hs kv rd sd (63 - j) (rfL kw hs kv rd sd x j)).1 (mkE kw hs kv rd sd (63 - j) (rfL kw hs kv rd sd x j)).2.1 r
    by_cases q : r = 63 - j
    · subst q
      exact mkE_RR h hr (by omega) h2 (fun h3 => ⟨ih _ (by omega) (by omega), ih _ (by omega) (by omega)⟩)
    · have ho := mkE_off (kw := kw) (hs := hs) (kv := kv) (rd := rd) (sd := sd) (r := 63 - j) (x := rfL kw hs kv rd sd x j)
      exact (ih r (by omega) h2).keep (fun b hb => ho.1 _ (by omega)) (ho.2 _ (by omega))
theorem rfL_off {kw hs : Nat → Bool} {kv : Nat → Int64} {rd : Nat → Int32} {sd : Nat} {x : mkT} : ∀ j, j ≤ 63 → (∀ t, (t < 2048 * sd + 32 ∨ 2048 * sd + 2048 ≤ t) → (rfL kw hs kv rd sd x j).1 t = x.1 t) ∧ ∀ t, (t < 64 * sd + 1 ∨ 64 * sd + 64 ≤ t) → (rfL kw hs kv rd sd x j).2.1 t = x.2.1 t
  | 0, _ => ⟨fun _ _ => rfl, fun _ _ => rfl⟩
  | j + 1, hj => by
    have ih := rfL_off (kw := kw) (hs := hs) (kv := kv) (rd := rd) (sd := sd) (x := x) j (by omega)
    have ho := mkE_off (kw := kw) (hs := hs) (kv := kv) (rd := rd) (sd := sd) (r := 63 - j) (x := rfL kw hs kv rd sd x j)
    exact ⟨fun t ht => (ho.1 t (by omega)).trans (ih.1 t ht), fun t ht => (ho.2 t (by omega)).trans (ih.2 t ht)⟩
/-- a side's ranges as the reference keeps them, if they are fresh -/
def FR (sd : Nat) (D S : Nat → Int32) (x : rfT) : Prop := x.1 sd = true → ∀ r, 1 ≤ r → r < 64 → RR sd D S x.2.1 x.2.2.1 r
theorem rfR_ok {kw hs : Nat → Bool} {kv : Nat → Int64} {rd : Nat → Int32} {sd : Nat} {x : rfT} {D S C : Nat → Int32} (h : TR (qM kw hs sd) (fun k => kv (256 * sd + k)) D S C (fun _ => True)) (hr : ∀ t, t < 64 → rd t = sha_K t) (hf : FR sd D S x) : (rfR kw hs kv rd sd x).1 sd = true ∧ FR sd D S (rfR kw hs kv rd sd x) := by
  refine ⟨va_up_at _ _ _, fun _ r h1 h2 => ?_⟩
  cases e : x.1 sd
  · have e2 : rfR kw hs kv rd sd x = (va_up x.1 sd true, rfL kw hs kv rd sd x.2 63) := rfR_f e
    rw [e2]
    exact rfL_ok h hr 63 (Nat.le_refl _) r (by omega) h2
  · have e2 : rfR kw hs kv rd sd x = x := rfR_t e
    rw [e2]
    exact hf e r h1 h2
theorem rfR_off {kw hs : Nat → Bool} {kv : Nat → Int64} {rd : Nat → Int32} {sd sd' : Nat} {x : rfT} {D S : Nat → Int32} (hs1 : sd < 2) (hs2 : sd' < 2) (hne : sd' ≠ sd) (hf : FR sd' D S x) : FR sd' D S (rfR kw hs kv rd sd x) := by
  cases e : x.1 sd
  · have e2 : rfR kw hs kv rd sd x = (va_up x.1 sd true, rfL kw hs kv rd sd x.2 63) := rfR_f e
    rw [e2]
    intro h r h1 h2
    have h' : x.1 sd' = true := by
      have h3 : va_up x.1 sd true sd' = true := h
      rwa [va_up_off _ _ hne] at h3
    have ho := rfL_off (kw := kw) (hs := hs) (kv := kv) (rd := rd) (sd := sd) (x := x.2) 63 (Nat.le_refl _)
    exact (hf h' r h1 h2).keep (fun b hb => ho.1 _ (by omega)) (ho.2 _ (by omega))
  · have e2 : rfR kw hs kv rd sd x = x := rfR_t e
    rw [e2]
    exact hf
/-- two sides' ranges: alike by bytes is alike by words -/
theorem eqN_eq8 {D D2 dg : Nat → Int32} {r : Nat} (h0 : ∀ b, b < 32 → dg (32 * r + b) = byt (D (8 * r + b / 4)) (b % 4)) (h1 : ∀ b, b < 32 → dg (32 * (64 + r) + b) = byt (D2 (8 * r + b / 4)) (b % 4)) : eqN 32 dg dg (32 * r) (32 * (64 + r)) = eq8 D D2 (8 * r) (8 * r) := by
  cases e : eq8 D D2 (8 * r) (8 * r)
  · cases e2 : eqN 32 dg dg (32 * r) (32 * (64 + r))
    · rfl
    · refine absurd (fun j hj => byt_inj (fun i hi => ?_)) (eq8_n e)
      have e3 := eqN_p e2 (4 * j + i) (by omega)
      rw [h0 _ (by omega), h1 _ (by omega), show (4 * j + i) / 4 = j by omega, show (4 * j + i) % 4 = i by omega] at e3
      exact e3
  · refine eqN_t (fun b hb => ?_)
    rw [h0 b hb, h1 b hb, eq8_p e (b / 4) (by omega)]
