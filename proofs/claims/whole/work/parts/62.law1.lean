/-! held or not held, in the class and in the reference -/
theorem up_h {sd n : Nat} {f h : Nat → Bool} {x : Bool} (hp : ∀ k, k < 4 → f k = h (4 * sd + k)) : ∀ k, k < 4 → va_up f n x k = va_up h (4 * sd + n) x (4 * sd + k) := by
  intro k hk
  by_cases e : k = n
  · rw [e, va_up_at, va_up_at]
  · rw [va_up_off _ _ e, va_up_off _ _ (by omega)]
    exact hp k hk
theorem up_g {sd sd' n : Nat} {f h : Nat → Bool} {x : Bool} (hne : sd ≠ sd') (hn : n < 4) (hp : ∀ k, k < 4 → f k = h (4 * sd' + k)) : ∀ k, k < 4 → f k = va_up h (4 * sd + n) x (4 * sd' + k) := by
  intro k hk
  rw [va_up_off _ _ (by omega)]
  exact hp k hk
theorem hold_k {sd n : Nat} {tr kw : Nat → Bool} (hs : sd < 2) (hn : n < 4) (hk : ∀ k, k < 256 → kw (256 * sd + k) = tr (256 * sd + k)) : ∀ k, k < 256 → lnK tr (lnK tr kw (256 * 0 + 64 * n) (64 * n + 64 - 64 * n)) (256 * 1 + 64 * n) (64 * n + 64 - 64 * n) (256 * sd + k) = tr (256 * sd + k) := by
  intro k h
  by_cases q : 64 * n ≤ k ∧ k < 64 * n + 64
  · rcases (by omega : sd = 0 ∨ sd = 1) with rfl | rfl
    · by_cases q2 : 256 * 1 + 64 * n ≤ 256 * 0 + k
      · omega
      · rw [lnK_off (by omega), lnK_in (by omega) (by omega)]
    · rw [lnK_in (by omega) (by omega)]
  · by_cases q2 : 256 * 1 + 64 * n ≤ 256 * sd + k ∧ 256 * sd + k < 256 * 1 + 64 * n + 64
    · rw [lnK_in (by omega) (by omega)]
    · rw [lnK_off (by omega)]
      by_cases q3 : 256 * 0 + 64 * n ≤ 256 * sd + k ∧ 256 * sd + k < 256 * 0 + 64 * n + 64
      · rw [lnK_in (by omega) (by omega)]
      · rw [lnK_off (by omega)]
        exact hk k h
theorem hold_v {sd n : Nat} {vw kv : Nat → Int64} (hs : sd < 2) (hn : n < 4) : ∀ k, k < 256 → k / 64 = n → lnV vw (lnV vw kv (256 * 0 + 64 * n) (64 * n + 64 - 64 * n)) (256 * 1 + 64 * n) (64 * n + 64 - 64 * n) (256 * sd + k) = vw (256 * sd + k) := by
  intro k h hq
  rcases (by omega : sd = 0 ∨ sd = 1) with rfl | rfl
  · rw [lnV_off (by omega), lnV_in (by omega) (by omega)]
  · rw [lnV_in (by omega) (by omega)]
theorem hold_w {sd n : Nat} {vw kv : Nat → Int64} (hs : sd < 2) (hn : n < 4) : ∀ k, k < 256 → k / 64 ≠ n → lnV vw (lnV vw kv (256 * 0 + 64 * n) (64 * n + 64 - 64 * n)) (256 * 1 + 64 * n) (64 * n + 64 - 64 * n) (256 * sd + k) = kv (256 * sd + k) := by
  intro k h hq
  rcases (by omega : sd = 0 ∨ sd = 1) with rfl | rfl
  · rw [lnV_off (by omega), lnV_off (by omega)]
  · rw [lnV_off (by omega), lnV_off (by omega)]
