/-! anew: how many ranges changed -/
theorem cntR_one {f g : Nat → Bool} {b k : Nat} : ∀ n, (∀ j, j < n → b + j ≠ k → g (b + j) = f (b + j)) → b ≤ k → f k = false → cntR g b n = cntR f b n + cond (decide (k < b + n) && g k) 1 0
  | 0, _, h1, _ => by
    rw [decide_eq_false (by omega)]; rfl
  | n + 1, h, h1, hf => by
    have ih := cntR_one (f := f) (g := g) (b := b) (k := k) n (fun j hj => h j (by omega)) h1 hf
    by_cases q : b + n = k
    · rw [decide_eq_false (by omega)] at ih
      have ih' : cntR g b n = cntR f b n := ih
      rw [decide_eq_true (show k < b + (n + 1) by omega), Bool.true_and]
      rw [cntR_f (f := f) (by rw [q]; exact hf)]
      cases hg : g k
      · rw [cntR_f (by rw [q]; exact hg), ih']; rfl
      · rw [cntR_t (by rw [q]; exact hg), ih']; rfl
    · have e : decide (k < b + (n + 1)) = decide (k < b + n) := by
        by_cases z : k < b + n
        · rw [decide_eq_true z, decide_eq_true (by omega)]
        · rw [decide_eq_false z, decide_eq_false (by omega)]
      have hn := h n (by omega) q
      rw [e]
      cases hv : f (b + n)
      · rw [cntR_f hv, cntR_f (hn.trans hv)]; exact ih
      · rw [cntR_t hv, cntR_t (hn.trans hv), ih]; omega
/-- of the ranges that P names, how many differ; the others are as they were -/
def CNT (D : Nat → Int32) (x : rmT) (P : Nat → Bool) : Prop :=
  (∀ r, 1 ≤ r → r < 64 → P r = false → ∀ j, j < 8 → x.1 (8 * r + j) = D (8 * r + j)) ∧ x.2.2.2.2 = cntR (fun r => P r && !eq8 D x.1 (8 * r) (8 * r)) 1 63
theorem eq8_congr {f f' h h' : Nat → Int32} {b b' d d' : Nat} (h1 : ∀ j, j < 8 → f (b + j) = f' (b' + j)) (h2 : ∀ j, j < 8 → h (d + j) = h' (d' + j)) : eq8 f h b d = eq8 f' h' b' d' := by
  cases e : eq8 f' h' b' d'
  · cases e2 : eq8 f h b d
    · rfl
    · exact absurd (fun j hj => (h1 j hj).symm.trans ((eq8_p e2 j hj).trans (h2 j hj))) (eq8_n e)
  · exact eq8_t (fun j hj => (h1 j hj).trans ((eq8_p e j hj).trans (h2 j hj).symm))
theorem CNT.congr {D : Nat → Int32} {x : rmT} {P P' : Nat → Bool} (h : CNT D x P) (e : ∀ r, 1 ≤ r → r < 64 → P' r = P r) : CNT D x P' :=
  ⟨fun r h1 h2 h3 => h.1 r h1 h2 (by rw [← e r h1 h2]; exact h3), h.2.trans (cntR_congr (fun j hj => by
    show (P (1 + j) && _) = (P' (1 + j) && _)
    rw [e (1 + j) (by omega) (by omega)]))⟩
theorem CNT_step {D f : Nat → Int32} {x x' : rmT} {P : Nat → Bool} {k : Nat} (h : CNT D x P) (h1 : 1 ≤ k) (h2 : k < 64) (hp : P k = false) (e1 : x'.1 = cp8 x.1 (8 * k) f 8) (e2 : x'.2.2.2.2 = x.2.2.2.2 + keepN x.1 (8 * k) f) :
    CNT D x' (fun r => decide (r = k) || P r) := by
  have off : ∀ r, r ≠ k → ∀ j, j < 8 → x'.1 (8 * r + j) = x.1 (8 * r + j) := fun r hr j hj => by rw [e1, cp8_off 8 (by omega)]
  refine ⟨fun r g1 g2 g3 j hj => ?_, ?_⟩
  · have g3 : (decide (r = k) || P r) = false := g3
    have hr : r ≠ k := fun q => by rw [decide_eq_true q, Bool.true_or] at g3; cases g3
    rw [decide_eq_false hr, Bool.false_or] at g3
    rw [off r hr j hj]
    exact h.1 r g1 g2 g3 j hj
  · have hk : eq8 x.1 f (8 * k) 0 = eq8 D x'.1 (8 * k) (8 * k) := eq8_congr (fun j hj => h.1 k h1 h2 hp j hj) (fun j hj => by rw [e1, cp8_in hj, Nat.zero_add])
    rw [e2, h.2]
    have c1 := cntR_one (f := fun r => P r && !eq8 D x.1 (8 * r) (8 * r)) (g := fun r => (decide (r = k) || P r) && !eq8 D x'.1 (8 * r) (8 * r)) (b := 1) (k := k) 63 (fun j hj q => by
      show ((decide (1 + j = k) || P (1 + j)) && !eq8 D x'.1 (8 * (1 + j)) (8 * (1 + j))) = (P (1 + j) && !eq8 D x.1 (8 * (1 + j)) (8 * (1 + j)))
      rw [decide_eq_false q, Bool.false_or, eq8_congr (fun _ _ => rfl) (off (1 + j) q)]) h1 (by show (P k && _) = false; rw [hp, Bool.false_and])
    rw [c1, decide_eq_true (show k < 1 + 63 by omega), Bool.true_and]
    show _ + keepN x.1 (8 * k) f = _ + cond ((decide (k = k) || P k) && !eq8 D x'.1 (8 * k) (8 * k)) 1 0
    rw [decide_eq_true rfl, Bool.true_or, Bool.true_and, ← hk]
    unfold keepN
    cases eq8 x.1 f (8 * k) 0 <;> rfl
theorem rmL_CNT {D : Nat → Int32} {pr q : Nat → Bool} {va : Nat → Int64} {x : rmT} {P : Nat → Bool} {k : Nat} (h : CNT D x P) (h1 : 1 ≤ k) (h2 : k < 64) (hp : P k = false) : CNT D (rmL pr va q k x) (fun r => decide (r = k) || P r) := CNT_step h h1 h2 hp rfl rfl
theorem rmI_CNT {D : Nat → Int32} {x : rmT} {P : Nat → Bool} {k : Nat} (h : CNT D x P) (h1 : 1 ≤ k) (h2 : k < 64) (hp : P k = false) : CNT D (rmI k x) (fun r => decide (r = k) || P r) := CNT_step h h1 h2 hp rfl rfl
theorem or_dec {a b c d : Prop} [Decidable a] [Decidable b] [Decidable c] (h : c ↔ a ∨ b) : decide c = (decide a || decide b) := by
  by_cases h1 : a <;> by_cases h2 : b <;> simp [h1, h2, h]
theorem rmLs_CNT {D : Nat → Int32} {pr q : Nat → Bool} {va : Nat → Int64} {x : rmT} (h : CNT D x (fun _ => false)) : ∀ i, i ≤ 32 → CNT D (rmLs pr va q 32 x i) (fun r => decide (32 ≤ r ∧ r < 32 + i))
  | 0, _ => h.congr (fun r _ _ => decide_eq_false (by omega))
  | i + 1, hi => by
    have ih := rmLs_CNT (pr := pr) (q := q) (va := va) h i (by omega)
    exact (rmL_CNT (k := 32 + i) (pr := pr) (q := q) (va := va) ih (by omega) (by omega) (decide_eq_false (by omega))).congr (fun r _ _ => or_dec (d := True) (by omega))
theorem rmIs_CNT {D : Nat → Int32} {x : rmT} {lo n : Nat} (hlo : 1 ≤ lo) (hn : lo + n ≤ 64) (h : CNT D x (fun r => decide (lo + n ≤ r))) : ∀ i, i ≤ n → CNT D (rmIs lo x i) (fun r => decide ((lo ≤ r ∧ r < lo + i) ∨ lo + n ≤ r))
  | 0, _ => h.congr (fun r _ _ => by
    by_cases q : lo + n ≤ r
    · rw [decide_eq_true q, decide_eq_true (Or.inr q)]
    · rw [decide_eq_false q, decide_eq_false (by omega)])
  | i + 1, hi => by
    have ih := rmIs_CNT hlo hn h i (by omega)
    exact (rmI_CNT (k := lo + i) ih (by omega) (by omega) (decide_eq_false (by omega))).congr (fun r _ _ => or_dec (d := True) (by omega))
theorem rmIs_all {D : Nat → Int32} {x : rmT} {lo n : Nat} (hlo : 1 ≤ lo) (hn : lo + n ≤ 64) (h : CNT D x (fun r => decide (lo + n ≤ r))) : CNT D (rmIs lo x n) (fun r => decide (lo ≤ r)) :=
  (rmIs_CNT hlo hn h n (Nat.le_refl _)).congr (fun r _ _ => by
    by_cases q : lo ≤ r
    · rw [decide_eq_true q, decide_eq_true (by omega)]
    · rw [decide_eq_false q, decide_eq_false (by omega)])
theorem rmUp_s (lo hi : Nat) (x : rmT) (d : Nat) : rmUp lo hi x (d + 1) = rmIs (hv lo d) (rmUp lo hi x d) (hv hi d + 1 - hv lo d) := rfl
theorem rmUp_0 (lo hi : Nat) (x : rmT) : rmUp lo hi x 0 = x := rfl
theorem hv_16 : ∀ d, d < 5 → 1 ≤ hv 16 d ∧ hv 16 d + (hv 31 d + 1 - hv 16 d) = (if d = 0 then 32 else hv 16 (d - 1)) ∧ hv 16 d + (hv 31 d + 1 - hv 16 d) ≤ 64 := by decide +kernel
theorem rmUp_CNT {D : Nat → Int32} {x : rmT} (h : CNT D x (fun r => decide (32 ≤ r))) : ∀ d, d ≤ 5 → CNT D (rmUp 16 31 x d) (fun r => decide ((if d = 0 then 32 else hv 16 (d - 1)) ≤ r))
  | 0, _ => by
    rw [rmUp_0]
    exact h
  | d + 1, hd => by
    have ih := rmUp_CNT h d (by omega)
    obtain ⟨a, b, c⟩ := hv_16 d (by omega)
    rw [rmUp_s]
    have := rmIs_all (D := D) (x := rmUp 16 31 x d) (lo := hv 16 d) (n := hv 31 d + 1 - hv 16 d) a c (ih.congr (fun r _ _ => by rw [b]))
    exact this.congr (fun r _ _ => by rw [if_neg (by omega), Nat.add_sub_cancel])
theorem rmAll_CNT {pr q : Nat → Bool} {va : Nat → Int64} {D S C : Nat → Int32} {s : shaT} : (rmAll pr va q 32 63 (D, S, C, s, 0)).2.2.2.2 = cntR (fun r => !eq8 D (rmAll pr va q 32 63 (D, S, C, s, 0)).1 (8 * r) (8 * r)) 1 63 := by
  have h0 : CNT D (D, S, C, s, 0) (fun _ => false) := ⟨fun _ _ _ _ _ _ => rfl, by
    have : ∀ i, cntR (fun r => false && !eq8 D (D, S, C, s, 0).1 (8 * r) (8 * r)) 1 i = 0 := by
      intro i
      induction i with
      | zero => rfl
      | succ i ih => rw [cntR_f (Bool.false_and _)]; exact ih
    exact (this 63).symm⟩
  have h1 := rmLs_CNT (pr := pr) (q := q) (va := va) h0 32 (Nat.le_refl _)
  have h2 := rmUp_CNT (h1.congr (P' := fun r => decide (32 ≤ r)) (fun r _ hr => by
    by_cases z : 32 ≤ r
    · rw [decide_eq_true z, decide_eq_true (by omega)]
    · rw [decide_eq_false z, decide_eq_false (by omega)])) 5 (Nat.le_refl _)
  have e : rmAll pr va q 32 63 (D, S, C, s, 0) = rmUp 16 31 (rmLs pr va q 32 (D, S, C, s, 0) 32) 5 := rfl
  rw [e]
  generalize rmUp 16 31 (rmLs pr va q 32 (D, S, C, s, 0) 32) 5 = y at h2
  rw [h2.2]
  refine cntR_congr (fun j hj => ?_)
  show (decide (_ ≤ 1 + j) && _) = _
  rw [decide_eq_true (by have : hv 16 4 = 1 := by decide
                         rw [if_neg (by decide), show 5 - 1 = 4 from rfl, this]; omega), Bool.true_and]
theorem old2_in (dg : Nat → Int32) (sd : Nat) (ol : Nat → Int32) : ∀ i k, k < i → old2 dg sd ol i k = dg (2048 * sd + k)
  | 0, k, h => by omega
  | i + 1, k, h => by
    show va_up (old2 dg sd ol i) i (dg (2048 * sd + i)) k = _
    by_cases q : k = i
    · rw [q, va_up_at]
    · rw [va_up_off _ _ q]; exact old2_in dg sd ol i k (by omega)
/-- the reference counts the same ranges -/
theorem anN_cnt {sd : Nat} {ol dg D D' : Nat → Int32} (h0 : ∀ r, 1 ≤ r → r < 64 → ∀ b, b < 32 → ol (32 * r + b) = byt (D (8 * r + b / 4)) (b % 4)) (h1 : ∀ r, 1 ≤ r → r < 64 → ∀ b, b < 32 → dg (32 * (64 * sd + r) + b) = byt (D' (8 * r + b / 4)) (b % 4)) :
    ∀ i, i ≤ 63 → anN ol dg sd i = cntR (fun r => !eq8 D D' (8 * r) (8 * r)) 1 i
  | 0, _ => rfl
  | i + 1, hi => by
    have ih := anN_cnt h0 h1 i (by omega)
    have e : alN ol dg (32 * (1 + i)) (2048 * sd + 32 * (1 + i)) 32 = eq8 D D' (8 * (1 + i)) (8 * (1 + i)) := by
      rw [alN_eq]
      have g1 := h0 (1 + i) (by omega) (by omega)
      have g2 := h1 (1 + i) (by omega) (by omega)
      have ea : ∀ b, 2048 * sd + 32 * (1 + i) + b = 32 * (64 * sd + (1 + i)) + b := fun b => by omega
      cases e : eq8 D D' (8 * (1 + i)) (8 * (1 + i))
      · cases e2 : eqN 32 ol dg (32 * (1 + i)) (2048 * sd + 32 * (1 + i))
        · rfl
        · refine absurd (fun j hj => byt_inj (fun t ht => ?_)) (eq8_n e)
          have e3 := eqN_p e2 (4 * j + t) (by omega)
          rw [ea, g1 _ (by omega), g2 _ (by omega), show (4 * j + t) / 4 = j by omega, show (4 * j + t) % 4 = t by omega] at e3
          exact e3
      · refine eqN_t (fun b hb => ?_)
        rw [ea, g1 b hb, g2 b hb, eq8_p e (b / 4) (by omega)]
    cases h : eq8 D D' (8 * (1 + i)) (8 * (1 + i))
    · rw [anN_f (e.trans h), cntR_t (f := fun r => !eq8 D D' (8 * r) (8 * r)) (by show (!eq8 D D' (8 * (1 + i)) (8 * (1 + i))) = true; rw [h]; rfl), ih]
    · rw [anN_t (e.trans h), cntR_f (f := fun r => !eq8 D D' (8 * r) (8 * r)) (by show (!eq8 D D' (8 * (1 + i)) (8 * (1 + i))) = false; rw [h]; rfl), ih]
