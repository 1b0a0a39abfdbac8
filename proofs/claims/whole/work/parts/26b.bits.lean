/-! rows on bits: the first family is of kit/laws/BITS.to-paste, the rest is my own -/
def bt (x : Int32) (i : Nat) : Bool := x.toBitVec.getLsbD i
theorem b_ext {x y : Int32} (h : ∀ i, i < 32 → bt x i = bt y i) : x = y := Int32.toBitVec_inj.mp (BitVec.eq_of_getLsbD_eq (fun i hi => h i hi))
theorem b_or (x y : Int32) (i : Nat) : bt (x ||| y) i = (bt x i || bt y i) := by unfold bt; rw [Int32.toBitVec_or, BitVec.getLsbD_or]
theorem b_and (x y : Int32) (i : Nat) : bt (x &&& y) i = (bt x i && bt y i) := by unfold bt; rw [Int32.toBitVec_and, BitVec.getLsbD_and]
theorem b_xor (x y : Int32) (i : Nat) : bt (x ^^^ y) i = (bt x i ^^ bt y i) := by unfold bt; rw [Int32.toBitVec_xor, BitVec.getLsbD_xor]
theorem b_big {x : Int32} {i : Nat} (h : 32 ≤ i) : bt x i = false := BitVec.getLsbD_of_ge _ _ h
theorem b_255 (i : Nat) : bt 255 i = decide (i < 8) := by
  rcases Nat.lt_or_ge i 32 with h | h
  · exact (by decide +kernel : ∀ i, i < 32 → bt 255 i = decide (i < 8)) i h
  · rw [b_big h, decide_eq_false (by omega)]
theorem b_m1 : ∀ i, i < 32 → bt (-1) i = true := by decide +kernel
theorem b_0 (i : Nat) : bt 0 i = false := BitVec.getLsbD_zero
theorem s_l : ∀ n, n < 32 → ((nI n &&& 31).toBitVec.smod 32).toNat = n := by decide +kernel
theorem s_u : ∀ n, n < 32 → (((nI n).toUInt32 &&& Int32.toUInt32 31).toBitVec % 32).toNat = n := by decide +kernel
theorem b_shl (n : Nat) (hn : n < 32) (x : Int32) {i : Nat} (hi : i < 32) : bt (x <<< (nI n &&& 31)) i = (decide (n ≤ i) && bt x (i - n)) := by
  unfold bt
  rw [Int32.toBitVec_shiftLeft]
  show (x.toBitVec <<< ((nI n &&& 31).toBitVec.smod 32).toNat).getLsbD i = _
  rw [s_l n hn, BitVec.getLsbD_shiftLeft]
  rcases Nat.lt_or_ge i n with h | h
  · simp [h, Nat.not_le.mpr h]
  · simp [hi, h, Nat.not_lt.mpr h]
theorem b_ushr (n : Nat) (hn : n < 32) (x : Int32) (i : Nat) : bt ((x.toUInt32 >>> ((nI n).toUInt32 &&& Int32.toUInt32 31)).toInt32) i = bt x (n + i) := by
  show (x.toUInt32 >>> ((nI n).toUInt32 &&& Int32.toUInt32 31)).toBitVec.getLsbD i = x.toUInt32.toBitVec.getLsbD (n + i)
  rw [UInt32.toBitVec_shiftRight]
  show (x.toUInt32.toBitVec >>> (((nI n).toUInt32 &&& Int32.toUInt32 31).toBitVec % 32).toNat).getLsbD i = _
  rw [s_u n hn, BitVec.getLsbD_ushiftRight]
theorem b_sshr (n : Nat) (hn : n < 32) (x : Int32) {i : Nat} (hi : i < 32) : bt (x >>> (nI n &&& 31)) i = if n + i < 32 then bt x (n + i) else bt x 31 := by
  unfold bt
  rw [Int32.toBitVec_shiftRight]
  show (x.toBitVec.sshiftRight ((nI n &&& 31).toBitVec.smod 32).toNat).getLsbD i = _
  rw [s_l n hn, BitVec.getLsbD_sshiftRight, BitVec.msb_eq_getLsbD_last]
  simp [hi]
def bL (v : Int64) (i : Nat) : Bool := v.toBitVec.getLsbD i
theorem s_u6 : ∀ n, n < 64 → (((nI n).toInt64.toUInt64 &&& Int64.toUInt64 63).toBitVec % 64).toNat = n := by decide +kernel
theorem s_l6 : ∀ n, n < 64 → (((nI n).toInt64 &&& 63).toBitVec.smod 64).toNat = n := by decide +kernel
theorem e255 : nI 255 = 255 := rfl
theorem bL_i (y : Int64) {i : Nat} (hi : i < 32) : bt (Int64.toInt32 y) i = bL y i := by
  show (y.toBitVec.signExtend 32).getLsbD i = _
  rw [BitVec.getLsbD_signExtend, decide_eq_true hi, if_pos (by omega), Bool.true_and]
  rfl
theorem bL_ushr (n : Nat) (hn : n < 64) (v : Int64) (i : Nat) : bL ((v.toUInt64 >>> ((nI n).toInt64.toUInt64 &&& Int64.toUInt64 63)).toInt64) i = bL v (n + i) := by
  show (v.toUInt64 >>> ((nI n).toInt64.toUInt64 &&& Int64.toUInt64 63)).toBitVec.getLsbD i = v.toUInt64.toBitVec.getLsbD (n + i)
  rw [UInt64.toBitVec_shiftRight]
  show (v.toUInt64.toBitVec >>> (((nI n).toInt64.toUInt64 &&& Int64.toUInt64 63).toBitVec % 64).toNat).getLsbD i = _
  rw [s_u6 n hn, BitVec.getLsbD_ushiftRight]
theorem bL_sshr (n : Nat) (hn : n < 64) (v : Int64) {i : Nat} (hi : n + i < 64) : bL (v >>> ((nI n).toInt64 &&& 63)) i = bL v (n + i) := by
  unfold bL
  rw [Int64.toBitVec_shiftRight]
  show (v.toBitVec.sshiftRight (((nI n).toInt64 &&& 63).toBitVec.smod 64).toNat).getLsbD i = _
  rw [s_l6 n hn, BitVec.getLsbD_sshiftRight, if_pos hi, decide_eq_false (by omega)]
  rfl
theorem bL_w (x : Int32) {i : Nat} (hi : i < 32) : bL (Int32.toInt64 x) i = bt x i := by
  show (x.toBitVec.signExtend 64).getLsbD i = _
  rw [BitVec.getLsbD_signExtend, decide_eq_true (by omega), if_pos hi, Bool.true_and]
  rfl
theorem by_bit {v : Int64} {i k : Nat} (hi : i < 8) (hk : k < 32) : bt (byteAt v i) k = (decide (k < 8) && bL v (8 * i + k)) := by
  unfold byteAt
  rw [b_and, e255, b_255, bL_i _ hk, bL_ushr _ (by omega), Bool.and_comm]
theorem shB_eq {v : Int64} {j : Nat} (hj : j < 8) : byteAt v (7 - j) = shB v j := by
  apply b_ext
  intro k hk
  rw [by_bit (by omega) hk]
  unfold shB
  rw [b_and, e255, b_255]
  by_cases h : k < 8
  · rw [bL_i _ hk, bL_sshr _ (by omega) _ (by omega), Bool.and_comm, show 8 * (7 - j) + k = 56 - 8 * j + k by omega]
  · rw [decide_eq_false h, Bool.and_false, Bool.false_and]
/-- byte j of a word, 0 the highest -/
def byt (x : Int32) (j : Nat) : Int32 := (x >>> (nI (24 - 8 * j) &&& 31)) &&& nI 255
theorem byt_bit {x : Int32} {j k : Nat} (hj : j < 4) (hk : k < 32) : bt (byt x j) k = (decide (k < 8) && bt x (24 - 8 * j + k)) := by
  unfold byt
  rw [b_and, e255, b_255, b_sshr _ (by omega) _ hk]
  by_cases h : k < 8
  · rw [if_pos (by omega), Bool.and_comm]
  · rw [decide_eq_false h, Bool.and_false, Bool.false_and]
theorem byt_by {x : Int32} {j : Nat} (hj : j < 4) : byteAt (Int32.toInt64 x) (3 - j) = byt x j := by
  apply b_ext
  intro k hk
  rw [by_bit (by omega) hk, byt_bit hj hk]
  by_cases h : k < 8
  · rw [bL_w _ (by omega), show 8 * (3 - j) + k = 24 - 8 * j + k by omega]
  · rw [decide_eq_false h, Bool.false_and, Bool.false_and]
theorem byt_us {x : Int32} {j : Nat} (hj : j < 4) : us x (nI (24 - 8 * j)) &&& nI 255 = byt x j := by
  apply b_ext
  intro k hk
  rw [byt_bit hj hk]
  unfold us
  rw [b_and, e255, b_255, b_ushr _ (by omega), Bool.and_comm]
theorem byt_and {x : Int32} {j : Nat} (hj : j < 4) : byt x j &&& nI 255 = byt x j := by
  apply b_ext
  intro k hk
  rw [b_and, e255, b_255, byt_bit hj hk]
  cases decide (k < 8) <;> cases bt x (24 - 8 * j + k) <;> rfl
theorem by0 (x : Int32) : byteAt (Int32.toInt64 x) 0 = x &&& nI 255 := by
  apply b_ext
  intro k hk
  rw [by_bit (by omega) hk, b_and, e255, b_255, bL_w _ (by omega), show 8 * 0 + k = k by omega, Bool.and_comm]
theorem sh4 (x b0 b1 b2 b3 : Int32) : (((((((x <<< (nI 8 &&& 31)) ||| b0) <<< (nI 8 &&& 31)) ||| b1) <<< (nI 8 &&& 31)) ||| b2) <<< (nI 8 &&& 31)) ||| b3 = (((b0 <<< (nI 24 &&& 31)) ||| (b1 <<< (nI 16 &&& 31))) ||| (b2 <<< (nI 8 &&& 31))) ||| b3 := by
  apply b_ext
  intro k hk
  have h8 : k - 8 < 32 := by omega
  have h16 : k - 8 - 8 < 32 := by omega
  have h24 : k - 8 - 8 - 8 < 32 := by omega
  rw [b_or, b_shl 8 (by decide) _ hk, b_or, b_shl 8 (by decide) _ h8, b_or, b_shl 8 (by decide) _ h16, b_or, b_shl 8 (by decide) _ h24, b_or, b_or, b_or, b_shl 24 (by decide) _ hk, b_shl 16 (by decide) _ hk, b_shl 8 (by decide) _ hk]
  rcases (by omega : k < 8 ∨ (8 ≤ k ∧ k < 16) ∨ (16 ≤ k ∧ k < 24) ∨ 24 ≤ k) with h | h | h | h
  · have a1 : decide (8 ≤ k) = false := decide_eq_false (by omega)
    have a2 : decide (16 ≤ k) = false := decide_eq_false (by omega)
    have a3 : decide (24 ≤ k) = false := decide_eq_false (by omega)
    simp only [a1, a2, a3, Bool.false_and, Bool.false_or]
  · have a1 : decide (8 ≤ k) = true := decide_eq_true (by omega)
    have a2 : decide (16 ≤ k) = false := decide_eq_false (by omega)
    have a3 : decide (24 ≤ k) = false := decide_eq_false (by omega)
    have a4 : decide (8 ≤ k - 8) = false := decide_eq_false (by omega)
    simp only [a1, a2, a3, a4, Bool.false_and, Bool.false_or, Bool.true_and]
  · have a1 : decide (8 ≤ k) = true := decide_eq_true (by omega)
    have a2 : decide (16 ≤ k) = true := decide_eq_true (by omega)
    have a3 : decide (24 ≤ k) = false := decide_eq_false (by omega)
    have a4 : decide (8 ≤ k - 8) = true := decide_eq_true (by omega)
    have a5 : decide (8 ≤ k - 8 - 8) = false := decide_eq_false (by omega)
    have e1 : k - 16 = k - 8 - 8 := by omega
    simp only [a1, a2, a3, a4, a5, e1, Bool.false_and, Bool.false_or, Bool.true_and]
  · have a1 : decide (8 ≤ k) = true := decide_eq_true (by omega)
    have a2 : decide (16 ≤ k) = true := decide_eq_true (by omega)
    have a3 : decide (24 ≤ k) = true := decide_eq_true (by omega)
    have a4 : decide (8 ≤ k - 8) = true := decide_eq_true (by omega)
    have a5 : decide (8 ≤ k - 8 - 8) = true := decide_eq_true (by omega)
    have a6 : decide (8 ≤ k - 8 - 8 - 8) = false := decide_eq_false (by omega)
    have e1 : k - 16 = k - 8 - 8 := by omega
    have e2 : k - 24 = k - 8 - 8 - 8 := by omega
    simp only [a1, a2, a3, a4, a5, a6, e1, e2, Bool.false_and, Bool.false_or, Bool.true_and]
/-- a word is its bytes -/
theorem byt_all (x : Int32) : (((byt x 0 <<< (nI 24 &&& 31)) ||| (byt x 1 <<< (nI 16 &&& 31))) ||| (byt x 2 <<< (nI 8 &&& 31))) ||| byt x 3 = x := by
  apply b_ext
  intro k hk
  rw [b_or, b_or, b_or, b_shl 24 (by decide) _ hk, b_shl 16 (by decide) _ hk, b_shl 8 (by decide) _ hk, byt_bit (by decide) (by omega), byt_bit (by decide) (by omega), byt_bit (by decide) (by omega), byt_bit (by decide) hk]
  rcases (by omega : k < 8 ∨ (8 ≤ k ∧ k < 16) ∨ (16 ≤ k ∧ k < 24) ∨ 24 ≤ k) with h | h | h | h
  · have a1 : decide (8 ≤ k) = false := decide_eq_false (by omega)
    have a2 : decide (16 ≤ k) = false := decide_eq_false (by omega)
    have a3 : decide (24 ≤ k) = false := decide_eq_false (by omega)
    have a4 : decide (k < 8) = true := decide_eq_true (by omega)
    have e1 : 24 - 8 * 3 + k = k := by omega
    simp only [a1, a2, a3, a4, e1, Bool.false_and, Bool.false_or, Bool.true_and]
  · have a1 : decide (8 ≤ k) = true := decide_eq_true (by omega)
    have a2 : decide (16 ≤ k) = false := decide_eq_false (by omega)
    have a3 : decide (24 ≤ k) = false := decide_eq_false (by omega)
    have a4 : decide (k < 8) = false := decide_eq_false (by omega)
    have a5 : decide (k - 8 < 8) = true := decide_eq_true (by omega)
    have e1 : 24 - 8 * 2 + (k - 8) = k := by omega
    simp only [a1, a2, a3, a4, a5, e1, Bool.false_and, Bool.false_or, Bool.true_and, Bool.or_false]
  · have a1 : decide (8 ≤ k) = true := decide_eq_true (by omega)
    have a2 : decide (16 ≤ k) = true := decide_eq_true (by omega)
    have a3 : decide (24 ≤ k) = false := decide_eq_false (by omega)
    have a4 : decide (k < 8) = false := decide_eq_false (by omega)
    have a5 : decide (k - 8 < 8) = false := decide_eq_false (by omega)
    have a6 : decide (k - 16 < 8) = true := decide_eq_true (by omega)
    have e1 : 24 - 8 * 1 + (k - 16) = k := by omega
    simp only [a1, a2, a3, a4, a5, a6, e1, Bool.false_and, Bool.false_or, Bool.true_and, Bool.or_false, Bool.and_false]
  · have a1 : decide (8 ≤ k) = true := decide_eq_true (by omega)
    have a2 : decide (16 ≤ k) = true := decide_eq_true (by omega)
    have a3 : decide (24 ≤ k) = true := decide_eq_true (by omega)
    have a4 : decide (k < 8) = false := decide_eq_false (by omega)
    have a5 : decide (k - 8 < 8) = false := decide_eq_false (by omega)
    have a6 : decide (k - 16 < 8) = false := decide_eq_false (by omega)
    have a7 : decide (k - 24 < 8) = true := decide_eq_true (by omega)
    have e1 : 24 - 8 * 0 + (k - 24) = k := by omega
    simp only [a1, a2, a3, a4, a5, a6, a7, e1, Bool.false_and, Bool.false_or, Bool.true_and, Bool.or_false, Bool.and_false]
theorem byt_inj {x y : Int32} (h : ∀ j, j < 4 → byt x j = byt y j) : x = y := by
  rw [← byt_all x, ← byt_all y, h 0 (by decide), h 1 (by decide), h 2 (by decide), h 3 (by decide)]
theorem mR_sh : ∀ n, n < 32 → 1 ≤ n → nI (32 - n) &&& 31 = (-(nI n)) &&& 31 := by decide +kernel
theorem mL_sh : Int32.toUInt32 (nI (32 - 7)) &&& Int32.toUInt32 31 = Int32.toUInt32 (-(nI 7)) &&& Int32.toUInt32 31 := by decide +kernel
theorem mR_rr (x : Int32) {n : Nat} (h : n < 32) (h1 : 1 ≤ n) : mR x n = rr x (nI n) := by
  unfold mR rr us
  rw [mR_sh n h h1]
theorem mL_rl (x : Int32) : mL x 7 = rl x (nI 7) := by
  unfold mL rl us
  rw [mL_sh]
