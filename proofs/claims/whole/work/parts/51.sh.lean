/-! SHA-256: the class's way, byte by byte, and the reference's, by blocks of a text, give the same words -/
abbrev stT : Type := (Nat → Int32) × (Nat → Int32)
/-- the bytes a .. a + n - 1 of B taken one by one -/
def stm (B : Nat → Int32) (a : Nat) (x : stT) (n : Nat) : stT := it (fun j y => tkB (B (a + j)) (a + j) y) x n
theorem stm_add (B : Nat → Int32) (a : Nat) (x : stT) (n m : Nat) : stm B a x (n + m) = stm B (a + n) (stm B a x n) m := by
  unfold stm
  rw [it_add]
  exact it_congr (fun j _ y => by show tkB (B (a + (n + j))) (a + (n + j)) y = _; rw [show a + (n + j) = a + n + j by omega])
theorem stm_congr {B B' : Nat → Int32} {a : Nat} {x : stT} {n : Nat} (h : ∀ t, a ≤ t → t < a + n → B t = B' t) : stm B a x n = stm B' a x n := by
  unfold stm
  exact it_congr (fun j hj y => by rw [h (a + j) (by omega) (by omega)])
theorem stm_1 (B : Nat → Int32) (a : Nat) (x : stT) : stm B a x 1 = tkB (B a) a x := rfl
theorem tkL_stm {v : Int64} {n tk : Nat} {x : stT} {B : Nat → Int32} (h : ∀ j, j < n → B (tk + j) = byteAt v (n - j - 1)) : tkL v n tk x = stm B tk x n := by
  unfold tkL stm
  exact it_congr (fun j hj y => by show tkB _ _ _ = _; rw [h j hj])
/-! the words of a block -/
def wkI (B : Nat → Int32) (i : Nat) (w : Nat → Int32) (n : Nat) : Nat → Int32 := it (fun j z => tkW (B (64 * i + j)) (64 * i + j) z) w n
theorem wkI_s (B : Nat → Int32) (i : Nat) (w : Nat → Int32) {m c : Nat} (hm : m < 16) (hc : c < 4) : wkI B i w (4 * m + c + 1) = va_up (wkI B i w (4 * m + c)) m ((wkI B i w (4 * m + c) m <<< (nI 8 &&& 31)) ||| B (64 * i + (4 * m + c))) := by
  show tkW (B (64 * i + (4 * m + c))) (64 * i + (4 * m + c)) (wkI B i w (4 * m + c)) = _
  unfold tkW
  rw [show (64 * i + (4 * m + c)) % 64 / 4 = m by omega]
theorem wkI_4 (B : Nat → Int32) (i : Nat) (w : Nat → Int32) {m : Nat} (hm : m < 16) : wkI B i w (4 * m + 4) m = wdB B (64 * i + 4 * m) ∧ ∀ k, k ≠ m → wkI B i w (4 * m + 4) k = wkI B i w (4 * m) k := by
  have s0 : wkI B i w (4 * m + 1) = va_up (wkI B i w (4 * m)) m ((wkI B i w (4 * m) m <<< (nI 8 &&& 31)) ||| B (64 * i + 4 * m)) := wkI_s B i w hm (show 0 < 4 by decide)
  have s1 := wkI_s B i w hm (show 1 < 4 by decide)
  have s2 := wkI_s B i w hm (show 2 < 4 by decide)
  have s3 := wkI_s B i w hm (show 3 < 4 by decide)
  refine ⟨?_, fun k hk => ?_⟩
  · rw [s3, va_up_at, s2, va_up_at, s1, va_up_at, s0, va_up_at, sh4]
    unfold wdB
    rw [show 64 * i + (4 * m + 1) = 64 * i + 4 * m + 1 by omega, show 64 * i + (4 * m + 2) = 64 * i + 4 * m + 2 by omega, show 64 * i + (4 * m + 3) = 64 * i + 4 * m + 3 by omega]
  · rw [s3, va_up_off _ _ hk, s2, va_up_off _ _ hk, s1, va_up_off _ _ hk, s0, va_up_off _ _ hk]
theorem wkI_w (B : Nat → Int32) (i : Nat) (w : Nat → Int32) : ∀ m, m ≤ 16 → ∀ k, k < m → wkI B i w (4 * m) k = wdB B (64 * i + 4 * k)
  | 0, _, k, hk => by omega
  | m + 1, hm, k, hk => by
    have h := wkI_4 B i w (show m < 16 by omega)
    rw [show 4 * (m + 1) = 4 * m + 4 by omega]
    by_cases q : k = m
    · rw [q]; exact h.1
    · rw [h.2 k q]
      exact wkI_w B i w m (by omega) k (by omega)
theorem stm_lt (B : Nat → Int32) (i : Nat) (x : stT) : ∀ n, n < 64 → stm B (64 * i) x n = (x.1, wkI B i x.2 n)
  | 0, _ => rfl
  | n + 1, h => by
    show tkB (B (64 * i + n)) (64 * i + n) (stm B (64 * i) x n) = _
    rw [stm_lt B i x n (by omega)]
    unfold tkB
    rw [if_neg (by omega)]
    rfl
theorem stm_64 (B : Nat → Int32) (i : Nat) (x : stT) : stm B (64 * i) x 64 = (shaAdd x.1 (it (shaR (it spr (wkI B i x.2 64) 48)) x.1 64), it spr (wkI B i x.2 64) 48) := by
  show tkB (B (64 * i + 63)) (64 * i + 63) (stm B (64 * i) x 63) = _
  rw [stm_lt B i x 63 (by omega)]
  unfold tkB
  rw [if_pos (by omega)]
  rfl
theorem wdI_w (tx : Nat → Int32) (f : Nat) (wo : Nat → Int32) : ∀ i k, k < i → wdI tx f wo i k = wdB tx (f + 4 * k)
  | 0, k, h => by omega
  | i + 1, k, h => by
    show va_up (wdI tx f wo i) i (wdB tx (f + 4 * i)) k = _
    by_cases q : k = i
    · rw [q, va_up_at]
    · rw [va_up_off _ _ q]
      exact wdI_w tx f wo i k (by omega)
theorem ms0_eq (x : Int32) : ms0 x = sha_s0 x := by
  unfold ms0 sha_s0
  rw [mR_rr x (by decide) (by decide), mR_rr x (by decide) (by decide)]
theorem ms1_eq (x : Int32) : ms1 x = sha_s1 x := by
  unfold ms1 sha_s1
  rw [mR_rr x (by decide) (by decide), mR_rr x (by decide) (by decide)]
theorem mS0_eq (x : Int32) : mS0 x = sha_S0 x := by
  unfold mS0 sha_S0
  rw [mR_rr x (by decide) (by decide), mR_rr x (by decide) (by decide), mR_rr x (by decide) (by decide)]
theorem mS1_eq (x : Int32) : mS1 x = sha_S1 x := by
  unfold mS1 sha_S1
  rw [mR_rr x (by decide) (by decide), mR_rr x (by decide) (by decide), mR_rr x (by decide) (by decide)]
theorem spr_v (j : Nat) (f : Nat → Int32) : spr j f = va_up f (16 + j) (sha_s1 (f (16 + j - 2)) + f (16 + j - 7) + sha_s0 (f (16 + j - 15)) + f (16 + j - 16)) := rfl
theorem sprM_v (j : Nat) (f : Nat → Int32) : sprM j f = va_up f (16 + j) (ms1 (f (16 + j - 2)) + f (16 + j - 7) + ms0 (f (16 + j - 15)) + f (16 + j - 16)) := rfl
theorem sch {w w' : Nat → Int32} (h : ∀ k, k < 16 → w k = w' k) : ∀ j, ∀ k, k < 16 + j → it spr w j k = it sprM w' j k
  | 0, k, hk => h k hk
  | j + 1, k, hk => by
    have ih := sch h j
    show spr j (it spr w j) k = sprM j (it sprM w' j) k
    rw [spr_v, sprM_v]
    by_cases q : k = 16 + j
    · rw [q, va_up_at, va_up_at, ms0_eq, ms1_eq, ih _ (by omega), ih _ (by omega), ih _ (by omega), ih _ (by omega)]
    · rw [va_up_off _ _ q, va_up_off _ _ q]
      exact ih k (by omega)
theorem rnd1 {W W' rd f z : Nat → Int32} {t : Nat} (hW : W t = W' t) (hr : rd t = sha_K t) (h : ∀ k, k < 8 → f k = z k) : ∀ k, k < 8 → shaR W t f k = mRd rd W' t z k := by
  have e1 : sha_one W t f = mOne rd W' t z := by
    unfold sha_one mOne
    rw [mS1_eq, hW, hr, h 7 (by decide), h 4 (by decide), h 5 (by decide), h 6 (by decide)]
  have e2 : sha_two f = mTwo z := by
    unfold sha_two mTwo
    rw [mS0_eq, h 0 (by decide), h 1 (by decide), h 2 (by decide)]
  intro k hk
  match k, hk with
  | 0, _ => show sha_one W t f + sha_two f = mOne rd W' t z + mTwo z; rw [e1, e2]
  | 1, _ => show f 0 = z 0; exact h 0 (by decide)
  | 2, _ => show f 1 = z 1; exact h 1 (by decide)
  | 3, _ => show f 2 = z 2; exact h 2 (by decide)
  | 4, _ => show f 3 + sha_one W t f = z 3 + mOne rd W' t z; rw [e1, h 3 (by decide)]
  | 5, _ => show f 4 = z 4; exact h 4 (by decide)
  | 6, _ => show f 5 = z 5; exact h 5 (by decide)
  | 7, _ => show f 6 = z 6; exact h 6 (by decide)
  | k + 8, hk => omega
theorem rnd {W W' rd f z : Nat → Int32} (hW : ∀ t, t < 64 → W t = W' t) (hr : ∀ t, t < 64 → rd t = sha_K t) (h : ∀ k, k < 8 → f k = z k) : ∀ n, n ≤ 64 → ∀ k, k < 8 → it (shaR W) f n k = it (mRd rd W') z n k
  | 0, _, k, hk => h k hk
  | n + 1, hn, k, hk => by
    show shaR W n (it (shaR W) f n) k = mRd rd W' n (it (mRd rd W') z n) k
    exact rnd1 (hW n (by omega)) (hr n (by omega)) (rnd hW hr h n (by omega)) k hk
theorem shaAdd_k (f r : Nat → Int32) {k : Nat} (hk : k < 8) : shaAdd f r k = f k + r k := by
  match k, hk with
  | 0, _ => rfl
  | 1, _ => rfl
  | 2, _ => rfl
  | 3, _ => rfl
  | 4, _ => rfl
  | 5, _ => rfl
  | 6, _ => rfl
  | 7, _ => rfl
  | k + 8, hk => omega
theorem cpW_k (ch wr : Nat → Int32) {k : Nat} (hk : k < 8) : cpW ch wr 8 k = ch k := by
  match k, hk with
  | 0, _ => rfl
  | 1, _ => rfl
  | 2, _ => rfl
  | 3, _ => rfl
  | 4, _ => rfl
  | 5, _ => rfl
  | 6, _ => rfl
  | 7, _ => rfl
  | k + 8, hk => omega
theorem chI_k (ch : Nat → Int32) {k : Nat} (hk : k < 8) : chI ch k = sha_H k := by
  match k, hk with
  | 0, _ => rfl
  | 1, _ => rfl
  | 2, _ => rfl
  | 3, _ => rfl
  | 4, _ => rfl
  | 5, _ => rfl
  | 6, _ => rfl
  | 7, _ => rfl
  | k + 8, hk => omega
theorem blk {B rd : Nat → Int32} {i : Nat} {x : stT} {y : bkT} (hr : ∀ t, t < 64 → rd t = sha_K t) (h : ∀ k, k < 8 → x.1 k = y.1 k) : ∀ k, k < 8 → (stm B (64 * i) x 64).1 k = (bkB B rd (64 * i) y).1 k := by
  intro k hk
  rw [stm_64]
  show shaAdd _ _ k = shaAdd _ _ k
  rw [shaAdd_k _ _ hk, shaAdd_k _ _ hk, h k hk]
  have hW : ∀ t, t < 64 → it spr (wkI B i x.2 64) 48 t = bkW B (64 * i) y.2.1 t := by
    intro t ht
    refine sch (fun q hq => ?_) 48 t (by omega)
    rw [wdI_w B (64 * i) y.2.1 16 q hq]
    exact wkI_w B i x.2 16 (by decide) q hq
  have := rnd (f := x.1) (W' := bkW B (64 * i) y.2.1) (z := cpW y.1 y.2.2 8) hW hr (fun q hq => by rw [cpW_k _ _ hq]; exact h q hq) 64 (Nat.le_refl _) k hk
  rw [this]
  rfl
theorem blks {B rd : Nat → Int32} {x : stT} {y : bkT} (hr : ∀ t, t < 64 → rd t = sha_K t) (h : ∀ k, k < 8 → x.1 k = y.1 k) : ∀ m, ∀ k, k < 8 → (stm B 0 x (64 * m)).1 k = (shaM B rd y m).1 k
  | 0, k, hk => h k hk
  | m + 1, k, hk => by
    rw [show 64 * (m + 1) = 64 * m + 64 by omega, stm_add, Nat.zero_add]
    exact blk hr (blks hr h m) k hk
/-! the padding -/
theorem pad1_v (bt : Nat) (tx : Nat → Int32) : ∀ i t, pad1 bt tx i t = if t < bt then tx t else if t = bt then nI 128 &&& nI 255 else if t < bt + 1 + i then nI 0 &&& nI 255 else tx t
  | 0, t => by
    show va_up tx bt (nI 128 &&& nI 255) t = _
    by_cases q : t = bt
    · rw [q, va_up_at, if_neg (Nat.lt_irrefl _), if_pos rfl]
    · rw [va_up_off _ _ q]
      by_cases h : t < bt
      · rw [if_pos h]
      · rw [if_neg h, if_neg q, if_neg (by omega)]
  | i + 1, t => by
    show va_up (pad1 bt tx i) (bt + 1 + i) (nI 0 &&& nI 255) t = _
    by_cases q : t = bt + 1 + i
    · rw [q, va_up_at, if_neg (by omega), if_neg (by omega), if_pos (by omega)]
    · rw [va_up_off _ _ q, pad1_v bt tx i t]
      by_cases h : t < bt
      · rw [if_pos h, if_pos h]
      · rw [if_neg h, if_neg h]
        by_cases h2 : t = bt
        · rw [if_pos h2, if_pos h2]
        · rw [if_neg h2, if_neg h2]
          by_cases h3 : t < bt + 1 + i
          · rw [if_pos h3, if_pos (by omega)]
          · rw [if_neg h3, if_neg (by omega)]
theorem pad2_v (bt : Nat) (tx : Nat → Int32) : ∀ i t, t < bt + 1 + zN bt + i → pad2 bt tx i t = if t < bt then tx t else if t = bt then nI 128 &&& nI 255 else nI 0 &&& nI 255
  | 0, t, ht => by
    show pad1 bt tx (zN bt) t = _
    rw [pad1_v]
    by_cases h : t < bt
    · rw [if_pos h, if_pos h]
    · rw [if_neg h, if_neg h]
      by_cases h2 : t = bt
      · rw [if_pos h2, if_pos h2]
      · rw [if_neg h2, if_neg h2, if_pos (by omega)]
  | i + 1, t, ht => by
    show va_up (pad2 bt tx i) (bt + 1 + zN bt + i) (nI 0 &&& nI 255) t = _
    by_cases q : t = bt + 1 + zN bt + i
    · rw [q, va_up_at, if_neg (by omega), if_neg (by omega)]
    · rw [va_up_off _ _ q]
      exact pad2_v bt tx i t (by omega)
theorem padT_lt {bt t : Nat} (tx : Nat → Int32) (h : t < bt) : padT bt tx t = tx t := by
  unfold padT
  rw [va_up_off _ _ (by omega), va_up_off _ _ (by omega), pad2_v bt tx 6 t (by omega), if_pos h]
theorem padT_0 (bt : Nat) (tx : Nat → Int32) : padT bt tx bt = nI 128 &&& nI 255 := by
  unfold padT
  rw [va_up_off _ _ (by omega), va_up_off _ _ (by omega), pad2_v bt tx 6 bt (by omega), if_neg (by omega), if_pos rfl]
theorem padT_z {bt t : Nat} (tx : Nat → Int32) (h : bt < t) (h2 : t < bt + 1 + zN bt + 6) : padT bt tx t = nI 0 &&& nI 255 := by
  unfold padT
  rw [va_up_off _ _ (by omega), va_up_off _ _ (by omega), pad2_v bt tx 6 t h2, if_neg (by omega), if_neg (by omega)]
theorem padT_6 (bt : Nat) (tx : Nat → Int32) : padT bt tx (bt + 1 + zN bt + 6) = (nI (8 * bt) >>> (nI 8 &&& 31)) &&& nI 255 := by
  unfold padT
  rw [va_up_off _ _ (by omega), va_up_at]
theorem padT_7 (bt : Nat) (tx : Nat → Int32) : padT bt tx (bt + 1 + zN bt + 6 + 1) = nI (8 * bt) &&& nI 255 := by
  unfold padT
  rw [va_up_at]
theorem len_b : ∀ n, n < 81 → (∀ j, j < 6 → byteAt (8 * Int32.toInt64 (nI n)) (8 - j - 1) = nI 0 &&& nI 255) ∧ byteAt (8 * Int32.toInt64 (nI n)) 1 = ((nI (8 * n) >>> (nI 8 &&& 31)) &&& nI 255) ∧ byteAt (8 * Int32.toInt64 (nI n)) 0 = nI (8 * n) &&& nI 255 := by decide +kernel
theorem b128 : byteAt 128 0 = nI 128 &&& nI 255 := by decide +kernel
theorem b000 : byteAt 0 0 = nI 0 &&& nI 255 := by decide +kernel
theorem finS_stm {n : Nat} (hn : n < 81) (tx : Nat → Int32) (x : stT) : finS n x = stm (padT n tx) n x (1 + zN n + 8) := by
  unfold finS
  have h1 : tkL 128 1 n x = stm (padT n tx) n x 1 := tkL_stm (fun j hj => by
    obtain rfl : j = 0 := by omega
    rw [Nat.add_zero, padT_0]
    exact b128.symm)
  have h2 : ∀ y : stT, ∀ m, m ≤ zN n → it (tkZ n) y m = stm (padT n tx) (n + 1) y m := by
    intro y m hm
    unfold stm
    refine it_congr (fun j hj z => ?_)
    show tkL 0 1 (n + 1 + j) z = _
    rw [tkL_stm (B := padT n tx) (fun i hi => by
      obtain rfl : i = 0 := by omega
      rw [Nat.add_zero, padT_z tx (by omega) (by omega)]
      exact b000.symm)]
    rfl
  have h3 : ∀ y : stT, tkL (8 * Int32.toInt64 (nI n)) 8 (n + 1 + zN n) y = stm (padT n tx) (n + 1 + zN n) y 8 := by
    intro y
    refine tkL_stm (fun j hj => ?_)
    obtain ⟨l1, l2, l3⟩ := len_b n hn
    rcases (by omega : j < 6 ∨ j = 6 ∨ j = 7) with h | rfl | rfl
    · rw [padT_z tx (by omega) (by omega), l1 j h]
    · rw [padT_6]; exact l2.symm
    · exact (padT_7 n tx).trans l3.symm
  rw [h1, h2 _ _ (Nat.le_refl _), h3, stm_add, stm_add, Nat.add_assoc n 1 (zN n)]
theorem bkN_eq (n : Nat) : n + (1 + zN n + 8) = 64 * bkN n := by
  have h := zN_ok n
  unfold bkN
  omega
/-- the digest of the first n bytes of B, by words -/
def sD (B : Nat → Int32) (n : Nat) : Nat → Int32 := (finS n (stm B 0 (sha_H, fun _ => 0) n)).1
theorem sha_eq {n : Nat} (hn : n < 81) {tx rd : Nat → Int32} {x : stT} (y : bkT) (hr : ∀ t, t < 64 → rd t = sha_K t) (hx : ∀ k, k < 8 → x.1 k = sha_H k) : ∀ k, k < 8 → (finS n (stm tx 0 x n)).1 k = (dgM rd n tx y).1 k := by
  intro k hk
  rw [stm_congr (B' := padT n tx) (fun t _ ht => (padT_lt tx (by omega)).symm), finS_stm hn tx]
  have e := stm_add (padT n tx) 0 x n (1 + zN n + 8)
  rw [Nat.zero_add] at e
  rw [← e, bkN_eq]
  unfold dgM
  exact blks (y := (chI y.1, y.2)) hr (fun q hq => by rw [hx q hq]; exact (chI_k y.1 hq).symm) (bkN n) k hk
theorem sD_cls {n : Nat} (hn : n < 81) {tx : Nat → Int32} {x : stT} (hx : ∀ k, k < 8 → x.1 k = sha_H k) : ∀ k, k < 8 → (finS n (stm tx 0 x n)).1 k = sD tx n k := by
  intro k hk
  unfold sD
  rw [sha_eq hn (rd := sha_K) (tx, tx, tx) (fun _ _ => rfl) hx k hk, sha_eq hn (rd := sha_K) (tx, tx, tx) (fun _ _ => rfl) (fun _ _ => rfl) k hk]
theorem sD_ref {n : Nat} (hn : n < 81) {tx rd : Nat → Int32} (y : bkT) (hr : ∀ t, t < 64 → rd t = sha_K t) : ∀ k, k < 8 → (dgM rd n tx y).1 k = sD tx n k := by
  intro k hk
  unfold sD
  exact (sha_eq hn y hr (fun _ _ => rfl) k hk).symm
theorem sD_congr {B B' : Nat → Int32} {n : Nat} (h : ∀ t, t < n → B t = B' t) : sD B n = sD B' n := by
  unfold sD
  rw [stm_congr (B' := B') (fun t _ ht => h t (by omega))]
