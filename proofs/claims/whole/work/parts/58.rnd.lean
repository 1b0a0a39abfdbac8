/-! the walk: the class's beside the reference's -/
/-- differences told: how many, kinds, places -/
def DR (x : tdT) (y : dfT) : Prop := x.1 = y.1 ∧ ∀ j, j < x.1 → x.2.1 j = y.2 (3 * j) ∧ nI (x.2.2 j / 64) = y.2 (3 * j + 1) ∧ nI (x.2.2 j % 64 + 1) = y.2 (3 * j + 2)
theorem DR_tell {x : tdT} {y : dfT} {kn k : Nat} (h : DR x y) (hx : x.1 < 256) : DR (tellN kn k x) (tlD kn k y) ∧ (tellN kn k x).1 = x.1 + 1 := by
  unfold tellN tlD
  rw [if_pos hx]
  refine ⟨⟨?_, fun j hj => ?_⟩, rfl⟩
  · show x.1 + 1 = y.1 + 1
    rw [h.1]
  · have hj' : j < x.1 + 1 := hj
    show va_up x.2.1 x.1 (nI kn) j = va_up (va_up (va_up y.2 (3 * y.1) (nI kn)) (3 * y.1 + 1) (nI (k / 64))) (3 * y.1 + 2) (nI (k % 64 + 1)) (3 * j) ∧ nI (va_up x.2.2 x.1 k j / 64) = va_up (va_up (va_up y.2 (3 * y.1) (nI kn)) (3 * y.1 + 1) (nI (k / 64))) (3 * y.1 + 2) (nI (k % 64 + 1)) (3 * j + 1) ∧ nI (va_up x.2.2 x.1 k j % 64 + 1) = va_up (va_up (va_up y.2 (3 * y.1) (nI kn)) (3 * y.1 + 1) (nI (k / 64))) (3 * y.1 + 2) (nI (k % 64 + 1)) (3 * j + 2)
    rw [← h.1]
    by_cases q : j = x.1
    · subst q
      rw [va_up_at, va_up_at]
      refine ⟨?_, ?_, ?_⟩
      · rw [va_up_off _ _ (by omega), va_up_off _ _ (by omega), va_up_at]
      · rw [va_up_off _ _ (by omega), va_up_at]
      · rw [va_up_at]
    · rw [va_up_off _ _ q, va_up_off _ _ q]
      obtain ⟨a, b, c⟩ := h.2 j (by omega)
      refine ⟨?_, ?_, ?_⟩
      · rw [va_up_off _ _ (by omega), va_up_off _ _ (by omega), va_up_off _ _ (by omega)]; exact a
      · rw [va_up_off _ _ (by omega), va_up_off _ _ (by omega), va_up_off _ _ (by omega)]; exact b
      · rw [va_up_off _ _ (by omega), va_up_off _ _ (by omega), va_up_off _ _ (by omega)]; exact c
theorem tlS_cm {x : tdT} {y : dfT} {k : Nat} {q a b d : Bool} (h : DR x y) (hx : x.1 < 256) : DR (tlS (a && q) (b && q) d k x) (cmS q a b d k y) := by
  cases q <;> cases a <;> cases b <;> cases d <;> first | exact h | exact (DR_tell h hx).1
theorem tlL_s (qa qb : Nat → Bool) (va vb : Nat → Int64) (b : Nat) (x : tdT) (i : Nat) : tlL qa qb va vb b x (i + 1) = tlS (qa (b + i)) (qb (b + i)) (neL (va (b + i)) (vb (b + i))) (b + i) (tlL qa qb va vb b x i) := by
  unfold tlL
  rw [it_s]
theorem cmL_s (tr hs : Nat → Bool) (vw : Nat → Int64) (b : Nat) (x : dfT) (i : Nat) : cmL tr hs vw b x (i + 1) = cmS (hs ((b + i) / 64) && hs (4 + (b + i) / 64)) (tr (b + i)) (tr (256 + (b + i))) (neL (vw (b + i)) (vw (256 + (b + i)))) (b + i) (cmL tr hs vw b x i) := by
  unfold cmL
  rw [it_s]
theorem tlL_cm {qa qb hs tr : Nat → Bool} {va vb vw : Nat → Int64} {b : Nat} {x : tdT} {y : dfT} (ha : ∀ k, k < 256 → qa k = qM tr hs 0 k) (hb : ∀ k, k < 256 → qb k = qM tr hs 1 k) (hva : ∀ k, k < 256 → va k = vw (256 * 0 + k)) (hvb : ∀ k, k < 256 → vb k = vw (256 * 1 + k)) (h : DR x y) (hb8 : b + 8 ≤ 256) (hx : x.1 + 8 ≤ 256) :
    ∀ i, i ≤ 8 → DR (tlL qa qb va vb b x i) (cmL tr hs vw b y i)
  | 0, _ => h
  | i + 1, hi => by
    have ih := tlL_cm ha hb hva hvb h hb8 hx i (by omega)
    have hle := tlL_le qa qb va vb b x i
    rw [tlL_s, cmL_s, ha _ (by omega), hb _ (by omega), hva _ (by omega), hvb _ (by omega)]
    unfold qM
    rw [show 256 * 0 + (b + i) = b + i by omega, show 256 * 1 + (b + i) = 256 + (b + i) by omega]
    exact tlS_cm ih (by omega)
theorem tellN_sl {kn k : Nat} {x : tdT} (hk : k < 256) (h : ∀ j, x.2.2 j < 256) : ∀ j, (tellN kn k x).2.2 j < 256 := by
  intro j
  unfold tellN
  split
  · show va_up x.2.2 x.1 k j < 256
    by_cases q : j = x.1
    · rw [q, va_up_at]; exact hk
    · rw [va_up_off _ _ q]; exact h j
  · exact h j
theorem tlS_sl {a b d : Bool} {k : Nat} {x : tdT} (hk : k < 256) (h : ∀ j, x.2.2 j < 256) : ∀ j, (tlS a b d k x).2.2 j < 256 := by
  cases a <;> cases b <;> cases d <;> first | exact h | exact tellN_sl hk h
theorem tlL_sl {qa qb : Nat → Bool} {va vb : Nat → Int64} {b : Nat} {x : tdT} (hb : b + 8 ≤ 256) (h : ∀ j, x.2.2 j < 256) : ∀ i, i ≤ 8 → ∀ j, (tlL qa qb va vb b x i).2.2 j < 256
  | 0, _ => h
  | i + 1, hi => by
    rw [tlL_s]
    exact tlS_sl (by omega) (tlL_sl hb h i (by omega))
/-- the ranges to come lie on one level: p of them at most, from p on -/
def WL (n : Nat) (f : Nat → Nat) : Prop := ∃ p, (p = 1 ∨ p = 2 ∨ p = 4 ∨ p = 8 ∨ p = 16 ∨ p = 32) ∧ n ≤ p ∧ ∀ j, j < n → p ≤ f j ∧ f j < 2 * p
theorem WL.rg {n : Nat} {f : Nat → Nat} (h : WL n f) : n ≤ 32 ∧ ∀ j, j < n → 1 ≤ f j ∧ f j < 64 := by
  obtain ⟨p, hp, h1, h2⟩ := h
  refine ⟨by omega, fun j hj => ?_⟩
  have := h2 j hj
  omega
theorem rf2_FB {kw hs : Nat → Bool} {kv : Nat → Int64} {rd : Nat → Int32} {x : rfT} {D S C D2 S2 C2 : Nat → Int32} (T0 : TR (qM kw hs 0) (fun k => kv (256 * 0 + k)) D S C (fun _ => True)) (T1 : TR (qM kw hs 1) (fun k => kv (256 * 1 + k)) D2 S2 C2 (fun _ => True)) (hr : ∀ t, t < 64 → rd t = sha_K t) (hf : FB D S D2 S2 x) :
    FB D S D2 S2 (rf2 kw hs kv rd x) ∧ ∀ r, 1 ≤ r → r < 64 → eqN 32 (rf2 kw hs kv rd x).2.1 (rf2 kw hs kv rd x).2.1 (32 * r) (32 * (64 + r)) = eq8 D D2 (8 * r) (8 * r) := by
  have h0 := rfR_FB0 T0 hr hf
  have h1 := rfR_FB1 T1 hr h0.2
  refine ⟨h1.2, fun r g1 g2 => ?_⟩
  have f0 : (rf2 kw hs kv rd x).1 0 = true := by
    show va_up (rfR kw hs kv rd 0 x).1 1 true 0 = true
    rw [va_up_off _ _ (by decide)]; exact h0.1
  have a := (h1.2.1 f0 r g1 g2).1
  have b := (h1.2.2.1 h1.1 r g1 g2).1
  refine eqN_eq8 (fun t ht => ?_) (fun t ht => ?_)
  · have := a t ht
    rw [show 32 * (64 * 0 + r) = 32 * r by omega] at this
    exact this
  · exact b t ht
theorem lkL_s (dg dg2 : Nat → Int32) (qa qb : Nat → Bool) (va vb : Nat → Int64) (rg : Nat → Nat) (x : wkT) (i : Nat) : lkL dg dg2 qa qb va vb rg x (i + 1) = lkA dg dg2 qa qb va vb (rg i) (lkL dg dg2 qa qb va vb rg x i) := by
  unfold lkL
  rw [it_s]
theorem rnL_s (kw hs tr : Nat → Bool) (kv vw : Nat → Int64) (rd : Nat → Int32) (lk : Nat → Nat) (x : rnT) (i : Nat) : rnL kw hs tr kv vw rd lk x (i + 1) = rnS kw hs tr kv vw rd (lk i) (rnL kw hs tr kv vw rd lk x i) := by
  unfold rnL
  rw [it_s]
/-- one round, after i ranges looked at -/
abbrev RND (D S D2 S2 : Nat → Int32) (p i : Nat) (x : wkT) (y : rnT) : Prop := (FB D S D2 S2 y.1) ∧ (x.1.1 = y.2.1.1) ∧ (∀ j, j < x.1.1 → x.1.2 j = y.2.1.2 j) ∧ (∀ j, j < x.1.1 → 2 * p ≤ x.1.2 j ∧ x.1.2 j < 4 * p) ∧ (x.1.1 ≤ 2 * i) ∧ (p = 32 → x.1.1 = 0) ∧ (DR x.2 y.2.2) ∧ (x.2.1 ≤ 8 * i) ∧ (p ≠ 32 → x.2.1 = 0) ∧ (∀ j, x.2.2.2 j < 256)
theorem RND.f {D S D2 S2 : Nat → Int32} {p i : Nat} {x : wkT} {y : rnT} (H9 : RND D S D2 S2 p i x y) : FB D S D2 S2 y.1 := H9.1
theorem RND.n {D S D2 S2 : Nat → Int32} {p i : Nat} {x : wkT} {y : rnT} (H9 : RND D S D2 S2 p i x y) : x.1.1 = y.2.1.1 := H9.2.1
theorem RND.e {D S D2 S2 : Nat → Int32} {p i : Nat} {x : wkT} {y : rnT} (H9 : RND D S D2 S2 p i x y) : ∀ j, j < x.1.1 → x.1.2 j = y.2.1.2 j := H9.2.2.1
theorem RND.r {D S D2 S2 : Nat → Int32} {p i : Nat} {x : wkT} {y : rnT} (H9 : RND D S D2 S2 p i x y) : ∀ j, j < x.1.1 → 2 * p ≤ x.1.2 j ∧ x.1.2 j < 4 * p := H9.2.2.2.1
theorem RND.b {D S D2 S2 : Nat → Int32} {p i : Nat} {x : wkT} {y : rnT} (H9 : RND D S D2 S2 p i x y) : x.1.1 ≤ 2 * i := H9.2.2.2.2.1
theorem RND.z {D S D2 S2 : Nat → Int32} {p i : Nat} {x : wkT} {y : rnT} (H9 : RND D S D2 S2 p i x y) : p = 32 → x.1.1 = 0 := H9.2.2.2.2.2.1
theorem RND.d {D S D2 S2 : Nat → Int32} {p i : Nat} {x : wkT} {y : rnT} (H9 : RND D S D2 S2 p i x y) : DR x.2 y.2.2 := H9.2.2.2.2.2.2.1
theorem RND.t {D S D2 S2 : Nat → Int32} {p i : Nat} {x : wkT} {y : rnT} (H9 : RND D S D2 S2 p i x y) : x.2.1 ≤ 8 * i := H9.2.2.2.2.2.2.2.1
theorem RND.u {D S D2 S2 : Nat → Int32} {p i : Nat} {x : wkT} {y : rnT} (H9 : RND D S D2 S2 p i x y) : p ≠ 32 → x.2.1 = 0 := H9.2.2.2.2.2.2.2.2.1
theorem RND.l {D S D2 S2 : Nat → Int32} {p i : Nat} {x : wkT} {y : rnT} (H9 : RND D S D2 S2 p i x y) : ∀ j, x.2.2.2 j < 256 := H9.2.2.2.2.2.2.2.2.2
theorem rnd_step {kw hs tr qa qb : Nat → Bool} {kv vw va vb : Nat → Int64} {rd D S C D2 S2 C2 : Nat → Int32} {p i r : Nat} {x : wkT} {y : rnT} (T0 : TR (qM kw hs 0) (fun k => kv (256 * 0 + k)) D S C (fun _ => True)) (T1 : TR (qM kw hs 1) (fun k => kv (256 * 1 + k)) D2 S2 C2 (fun _ => True)) (hr : ∀ t, t < 64 → rd t = sha_K t)
    (ha : ∀ k, k < 256 → qa k = qM tr hs 0 k) (hb : ∀ k, k < 256 → qb k = qM tr hs 1 k) (hva : ∀ k, k < 256 → va k = vw (256 * 0 + k)) (hvb : ∀ k, k < 256 → vb k = vw (256 * 1 + k))
    (hp : p = 1 ∨ p = 2 ∨ p = 4 ∨ p = 8 ∨ p = 16 ∨ p = 32) (hi : i < p) (h1 : p ≤ r) (h2 : r < 2 * p) (H : RND D S D2 S2 p i x y) : RND D S D2 S2 p (i + 1) (lkA D D2 qa qb va vb r x) (rnS kw hs tr kv vw rd r y) := by
  obtain ⟨hf, he⟩ := rf2_FB T0 T1 hr H.f
  have he := he r (by omega) (by omega)
  unfold lkA rnS
  rw [he]
  cases eq8 D D2 (8 * r) (8 * r)
  · rw [cond_false, cond_false]
    by_cases hr32 : r < 32
    · rw [if_pos hr32, if_pos hr32]
      have hp32 : p ≤ 16 := by omega
      have hb1 := H.b
      have e1 : adC (2 * r) x.1 = (x.1.1 + 1, va_up x.1.2 x.1.1 (2 * r)) := if_pos (by omega)
      have e2 : adC (2 * r + 1) (adC (2 * r) x.1) = (x.1.1 + 1 + 1, va_up (va_up x.1.2 x.1.1 (2 * r)) (x.1.1 + 1) (2 * r + 1)) := by rw [e1]; exact if_pos (by show x.1.1 + 1 < 32; omega)
      rw [e2]
      refine ⟨hf, ?_, fun j hj => ?_, fun j hj => ?_, ?_, fun q => by omega, H.d, Nat.le_trans H.t (by omega), H.u, H.l⟩
      · show x.1.1 + 1 + 1 = y.2.1.1 + 2
        rw [H.n]
      · show va_up (va_up x.1.2 x.1.1 (2 * r)) (x.1.1 + 1) (2 * r + 1) j = va_up (va_up y.2.1.2 y.2.1.1 (2 * r)) (y.2.1.1 + 1) (2 * r + 1) j
        have hj' : j < x.1.1 + 1 + 1 := hj
        rw [← H.n]
        by_cases q : j = x.1.1 + 1
        · rw [q, va_up_at, va_up_at]
        · rw [va_up_off _ _ q, va_up_off _ _ q]
          by_cases q2 : j = x.1.1
          · rw [q2, va_up_at, va_up_at]
          · rw [va_up_off _ _ q2, va_up_off _ _ q2]; exact H.e j (by omega)
      · have hj' : j < x.1.1 + 1 + 1 := hj
        show 2 * p ≤ va_up (va_up x.1.2 x.1.1 (2 * r)) (x.1.1 + 1) (2 * r + 1) j ∧ va_up (va_up x.1.2 x.1.1 (2 * r)) (x.1.1 + 1) (2 * r + 1) j < 4 * p
        by_cases q : j = x.1.1 + 1
        · rw [q, va_up_at]; omega
        · rw [va_up_off _ _ q]
          by_cases q2 : j = x.1.1
          · rw [q2, va_up_at]; omega
          · rw [va_up_off _ _ q2]; exact H.r j (by omega)
      · show x.1.1 + 1 + 1 ≤ 2 * (i + 1)
        omega
    · rw [if_neg hr32, if_neg hr32]
      have hp32 : p = 32 := by omega
      have ht := H.t
      have hle := tlL_le qa qb va vb (8 * (r - 32)) x.2 8
      refine ⟨hf, H.n, H.e, H.r, Nat.le_trans H.b (by omega), H.z, tlL_cm ha hb hva hvb H.d (by omega) (by omega) 8 (Nat.le_refl _), ?_, fun q => absurd hp32 q, tlL_sl (by omega) H.l 8 (Nat.le_refl _)⟩
      show (tlL qa qb va vb (8 * (r - 32)) x.2 8).1 ≤ 8 * (i + 1)
      omega
  · rw [cond_true, cond_true]
    exact ⟨hf, H.n, H.e, H.r, Nat.le_trans H.b (by omega), H.z, H.d, Nat.le_trans H.t (by omega), H.u, H.l⟩
theorem rnd_all {kw hs tr qa qb : Nat → Bool} {kv vw va vb : Nat → Int64} {rd D S C D2 S2 C2 : Nat → Int32} {p n : Nat} {x : wkT} {y : rnT} {rg lk : Nat → Nat} (T0 : TR (qM kw hs 0) (fun k => kv (256 * 0 + k)) D S C (fun _ => True)) (T1 : TR (qM kw hs 1) (fun k => kv (256 * 1 + k)) D2 S2 C2 (fun _ => True)) (hr : ∀ t, t < 64 → rd t = sha_K t)
    (ha : ∀ k, k < 256 → qa k = qM tr hs 0 k) (hb : ∀ k, k < 256 → qb k = qM tr hs 1 k) (hva : ∀ k, k < 256 → va k = vw (256 * 0 + k)) (hvb : ∀ k, k < 256 → vb k = vw (256 * 1 + k))
    (hp : p = 1 ∨ p = 2 ∨ p = 4 ∨ p = 8 ∨ p = 16 ∨ p = 32) (hn : n ≤ p) (hl : ∀ j, j < n → p ≤ lk j ∧ lk j < 2 * p) (hg : ∀ j, j < n → rg j = lk j) (H : RND D S D2 S2 p 0 x y) : ∀ i, i ≤ n → RND D S D2 S2 p i (lkL D D2 qa qb va vb rg x i) (rnL kw hs tr kv vw rd lk y i)
  | 0, _ => H
  | i + 1, hi => by
    have ih := rnd_all T0 T1 hr ha hb hva hvb hp hn hl hg H i (by omega)
    rw [lkL_s, rnL_s, hg i (by omega)]
    exact rnd_step T0 T1 hr ha hb hva hvb hp (by omega) (hl i (by omega)).1 (hl i (by omega)).2 ih
theorem cpN_in (nx lk : Nat → Nat) : ∀ i j, j < i → cpN nx lk i j = nx j
  | 0, j, h => by omega
  | i + 1, j, h => by
    show va_up (cpN nx lk i) i (nx i) j = _
    by_cases q : j = i
    · rw [q, va_up_at]
    · rw [va_up_off _ _ q]; exact cpN_in nx lk i j (by omega)
/-- the walk's state -/
abbrev WR (rg : Nat → Nat) (kd : Nat → Int32) (sl : Nat → Nat) (pe ts : Nat) (dn : Int32) (wk : Bool) (ro : Int32) (lo di : Nat) (lk : Nat → Nat) (df : Nat → Int32) : Prop := (pe = lo) ∧ (∀ j, j < lo → rg j = lk j) ∧ (WL lo lk) ∧ (DR (ts, kd, sl) (di, df)) ∧ (0 < lo → di = 0) ∧ (di ≤ 256) ∧ (wk = false → lo = 0 ∧ di = 0) ∧ (dn = cond wk ro (-1)) ∧ (∀ j, sl j < 256)
theorem WR.n {rg : Nat → Nat} {kd : Nat → Int32} {sl : Nat → Nat} {pe ts : Nat} {dn : Int32} {wk : Bool} {ro : Int32} {lo di : Nat} {lk : Nat → Nat} {df : Nat → Int32} (H9 : WR rg kd sl pe ts dn wk ro lo di lk df) : pe = lo := H9.1
theorem WR.e {rg : Nat → Nat} {kd : Nat → Int32} {sl : Nat → Nat} {pe ts : Nat} {dn : Int32} {wk : Bool} {ro : Int32} {lo di : Nat} {lk : Nat → Nat} {df : Nat → Int32} (H9 : WR rg kd sl pe ts dn wk ro lo di lk df) : ∀ j, j < lo → rg j = lk j := H9.2.1
theorem WR.w {rg : Nat → Nat} {kd : Nat → Int32} {sl : Nat → Nat} {pe ts : Nat} {dn : Int32} {wk : Bool} {ro : Int32} {lo di : Nat} {lk : Nat → Nat} {df : Nat → Int32} (H9 : WR rg kd sl pe ts dn wk ro lo di lk df) : WL lo lk := H9.2.2.1
theorem WR.d {rg : Nat → Nat} {kd : Nat → Int32} {sl : Nat → Nat} {pe ts : Nat} {dn : Int32} {wk : Bool} {ro : Int32} {lo di : Nat} {lk : Nat → Nat} {df : Nat → Int32} (H9 : WR rg kd sl pe ts dn wk ro lo di lk df) : DR (ts, kd, sl) (di, df) := H9.2.2.2.1
theorem WR.z {rg : Nat → Nat} {kd : Nat → Int32} {sl : Nat → Nat} {pe ts : Nat} {dn : Int32} {wk : Bool} {ro : Int32} {lo di : Nat} {lk : Nat → Nat} {df : Nat → Int32} (H9 : WR rg kd sl pe ts dn wk ro lo di lk df) : 0 < lo → di = 0 := H9.2.2.2.2.1
theorem WR.b {rg : Nat → Nat} {kd : Nat → Int32} {sl : Nat → Nat} {pe ts : Nat} {dn : Int32} {wk : Bool} {ro : Int32} {lo di : Nat} {lk : Nat → Nat} {df : Nat → Int32} (H9 : WR rg kd sl pe ts dn wk ro lo di lk df) : di ≤ 256 := H9.2.2.2.2.2.1
theorem WR.f {rg : Nat → Nat} {kd : Nat → Int32} {sl : Nat → Nat} {pe ts : Nat} {dn : Int32} {wk : Bool} {ro : Int32} {lo di : Nat} {lk : Nat → Nat} {df : Nat → Int32} (H9 : WR rg kd sl pe ts dn wk ro lo di lk df) : wk = false → lo = 0 ∧ di = 0 := H9.2.2.2.2.2.2.1
theorem WR.r {rg : Nat → Nat} {kd : Nat → Int32} {sl : Nat → Nat} {pe ts : Nat} {dn : Int32} {wk : Bool} {ro : Int32} {lo di : Nat} {lk : Nat → Nat} {df : Nat → Int32} (H9 : WR rg kd sl pe ts dn wk ro lo di lk df) : dn = cond wk ro (-1) := H9.2.2.2.2.2.2.2.1
theorem WR.l {rg : Nat → Nat} {kd : Nat → Int32} {sl : Nat → Nat} {pe ts : Nat} {dn : Int32} {wk : Bool} {ro : Int32} {lo di : Nat} {lk : Nat → Nat} {df : Nat → Int32} (H9 : WR rg kd sl pe ts dn wk ro lo di lk df) : ∀ j, sl j < 256 := H9.2.2.2.2.2.2.2.2
theorem WR_begin {rg : Nat → Nat} {kd : Nat → Int32} {sl : Nat → Nat} {pe ts : Nat} {dn : Int32} {wk : Bool} {ro : Int32} {lo di : Nat} {lk : Nat → Nat} {df : Nat → Int32} (H : WR rg kd sl pe ts dn wk ro lo di lk df) : WR (va_up rg 0 1) kd sl 1 0 (nI 0) true (nI 0) 1 0 (va_up lk 0 1) df := by
  refine ⟨rfl, fun j hj => ?_, ⟨1, Or.inl rfl, Nat.le_refl _, fun j hj => ?_⟩, ⟨rfl, fun j hj => absurd hj (Nat.not_lt_zero _)⟩, fun _ => rfl, (by decide), (fun h => by cases h), rfl, H.l⟩
  · obtain rfl : j = 0 := by omega
    rw [va_up_at, va_up_at]
  · obtain rfl : j = 0 := by omega
    rw [va_up_at]; omega
theorem WR_round {kw hs tr qa qb : Nat → Bool} {kv vw va vb : Nat → Int64} {rd D S C D2 S2 C2 : Nat → Int32} {rg cm : Nat → Nat} {kd : Nat → Int32} {sl : Nat → Nat} {pe ts : Nat} {dn : Int32} {wk : Bool} {ro : Int32} {lo di : Nat} {lk nx : Nat → Nat} {df : Nat → Int32} {y : rfT}
    (T0 : TR (qM kw hs 0) (fun k => kv (256 * 0 + k)) D S C (fun _ => True)) (T1 : TR (qM kw hs 1) (fun k => kv (256 * 1 + k)) D2 S2 C2 (fun _ => True)) (hr : ∀ t, t < 64 → rd t = sha_K t)
    (ha : ∀ k, k < 256 → qa k = qM tr hs 0 k) (hb : ∀ k, k < 256 → qb k = qM tr hs 1 k) (hva : ∀ k, k < 256 → va k = vw (256 * 0 + k)) (hvb : ∀ k, k < 256 → vb k = vw (256 * 1 + k)) (hf : FB D S D2 S2 y) (H : WR rg kd sl pe ts dn wk ro lo di lk df) (hw : wk = true) (h0 : 0 < lo) :
    FB D S D2 S2 (rnL kw hs tr kv vw rd lk (y, (0, nx), (di, df)) lo).1 ∧ (lkL D D2 qa qb va vb rg ((0, cm), (ts, kd, sl)) pe).1.1 = (rnL kw hs tr kv vw rd lk (y, (0, nx), (di, df)) lo).2.1.1 ∧
    WR (va_cpy (lkL D D2 qa qb va vb rg ((0, cm), (ts, kd, sl)) pe).1.2 rg 0 0 32) (lkL D D2 qa qb va vb rg ((0, cm), (ts, kd, sl)) pe).2.2.1 (lkL D D2 qa qb va vb rg ((0, cm), (ts, kd, sl)) pe).2.2.2 (lkL D D2 qa qb va vb rg ((0, cm), (ts, kd, sl)) pe).1.1 (lkL D D2 qa qb va vb rg ((0, cm), (ts, kd, sl)) pe).2.1 (dn + nI 1) wk (ro + nI 1)
      (rnL kw hs tr kv vw rd lk (y, (0, nx), (di, df)) lo).2.1.1 (rnL kw hs tr kv vw rd lk (y, (0, nx), (di, df)) lo).2.2.1 (cpN (rnL kw hs tr kv vw rd lk (y, (0, nx), (di, df)) lo).2.1.2 lk (rnL kw hs tr kv vw rd lk (y, (0, nx), (di, df)) lo).2.1.1) (rnL kw hs tr kv vw rd lk (y, (0, nx), (di, df)) lo).2.2.2 := by
  obtain ⟨p, hp, hn, hl⟩ := H.w
  have hd0 := H.z h0
  have ht0 : ts = 0 := H.d.1.trans hd0
  have R0 : RND D S D2 S2 p 0 ((0, cm), (ts, kd, sl)) (y, (0, nx), (di, df)) := ⟨hf, rfl, fun j hj => absurd hj (Nat.not_lt_zero _), fun j hj => absurd hj (Nat.not_lt_zero _), Nat.le_refl _, fun _ => rfl, H.d, by show ts ≤ 0; omega, fun _ => ht0, H.l⟩
  have Rn := rnd_all T0 T1 hr ha hb hva hvb hp hn hl H.e R0 lo (Nat.le_refl _)
  have epe := H.n
  subst epe
  generalize lkL D D2 qa qb va vb rg ((0, cm), (ts, kd, sl)) pe = X at Rn ⊢
  generalize rnL kw hs tr kv vw rd lk (y, (0, nx), (di, df)) pe = Y at Rn ⊢
  have hz := Rn.z
  have hb2 := Rn.b
  have ht2 := Rn.t
  have hu2 := Rn.u
  have hX : X.1.1 ≤ 32 := by
    by_cases q : p = 32
    · rw [hz q]; decide
    · omega
  refine ⟨Rn.f, Rn.n, ⟨Rn.n, fun j hj => ?_, ?_, Rn.d, fun hq => ?_, ?_, (fun h => by rw [hw] at h; cases h), ?_, Rn.l⟩⟩
  · rw [← Rn.n] at hj
    rw [cpN_in _ _ _ _ (by rw [← Rn.n]; exact hj), pk_cpy_in (by omega) (by omega)]
    rw [← Rn.e j hj, show 0 + (j - 0) = j by omega]
  · rw [← Rn.n]
    by_cases q : p = 32
    · exact ⟨1, Or.inl rfl, by rw [hz q]; decide, fun j hj => by rw [hz q] at hj; omega⟩
    · refine ⟨2 * p, by omega, by omega, fun j hj => ?_⟩
      rw [cpN_in _ _ _ _ hj, ← Rn.e j hj]
      have := Rn.r j hj
      omega
  · rw [← Rn.n] at hq
    have : Y.2.2.1 = X.2.1 := Rn.d.1.symm
    rw [this]
    refine hu2 (fun q => ?_)
    rw [hz q] at hq
    omega
  · have : Y.2.2.1 = X.2.1 := Rn.d.1.symm
    rw [this]
    omega
  · rw [H.r, hw]; rfl
theorem toI_0 {y : Int32} : y.toInt = 0 ↔ y = 0 := ⟨fun h => Int32.toInt_inj.mp (h.trans (by decide)), fun h => by rw [h]; decide⟩
theorem toI_n {y : Int32} {n : Nat} (hn : n < 2 ^ 31) : y.toInt = (n : Int) ↔ y = nI n := ⟨fun h => Int32.toInt_inj.mp (h.trans (nI_toInt hn).symm), fun h => by rw [h]; exact nI_toInt hn⟩
theorem toI_1 {y : Int32} : y.toInt = 1 ↔ y = nI 1 := ⟨fun h => Int32.toInt_inj.mp (h.trans (by decide)), fun h => by rw [h]; decide⟩
theorem toI_2 {y : Int32} : y.toInt = 2 ↔ y = nI 2 := ⟨fun h => Int32.toInt_inj.mp (h.trans (by decide)), fun h => by rw [h]; decide⟩
theorem wiN_out {x : Int32} {d : Nat} (hd : d < 2 ^ 31) (h : wiN x (nI 0) (nI d - nI 1) = false) : x < 0 ∨ nI d ≤ x := by
  by_cases h0 : x < 0
  · exact Or.inl h0
  · obtain ⟨r, hr, rfl⟩ := nI_of h0
    refine Or.inr ((nI_leI hd hr).mpr (Nat.le_of_not_lt (fun q => ?_)))
    rw [wiN_ixn hd q] at h
    cases h
theorem differ_eq {rg : Nat → Nat} {kd : Nat → Int32} {sl : Nat → Nat} {pe ts : Nat} {dn : Int32} {wk : Bool} {ro : Int32} {lo di : Nat} {lk : Nat → Nat} {df : Nat → Int32} (H : WR rg kd sl pe ts dn wk ro lo di lk df) (x y : Int32) : fndV ts kd sl x y = difV wk di df x y := by
  have hts : ts = di := H.d.1
  have hdi := H.b
  unfold difV
  cases hw : wk
  · have := (H.f hw).2
    rw [Bool.false_and, Bool.false_and, if_neg (show ¬ (false = true) by decide)]
    refine fndV_out ?_
    by_cases h0 : x < 0
    · exact Or.inl (Or.inl h0)
    · obtain ⟨r, hr, rfl⟩ := nI_of h0
      exact Or.inl (Or.inr ((nI_leI (by omega) hr).mpr (by omega)))
  · cases hx : wiN x (nI 0) (nI di - nI 1)
    · rw [Bool.and_false, Bool.false_and, if_neg (show ¬ (false = true) by decide)]
      exact fndV_out (Or.inl (by rw [hts]; exact wiN_out (by omega) hx))
    · obtain ⟨r, hr, rfl⟩ := wiN_ix (by omega) hx
      rw [fndV_in (by omega) (by omega) (by omega), nI_clamp (by omega)]
      obtain ⟨a, b, c⟩ := H.d.2 r (by show r < ts; omega)
      have a' : kd r = df (3 * r) := a
      have b' : nI (sl r / 64) = df (3 * r + 1) := b
      have c' : nI (sl r % 64 + 1) = df (3 * r + 2) := c
      cases hy : wiN y (nI 0) (nI 2)
      · rw [Bool.and_false, if_neg (show ¬ (false = true) by decide)]
        have hn : ∀ n, n ≤ 2 → ¬ y = nI n := fun n hn e => by
          rw [e, wiN_n (by omega) hn (by decide)] at hy
          cases hy
        rw [if_neg (fun h => hn 0 (by omega) (toI_0.mp h)), if_neg (fun h => hn 1 (by omega) (toI_1.mp h)), if_neg (fun h => hn 2 (by omega) (toI_2.mp h))]
      · obtain ⟨k, -, hk, rfl⟩ := wiN_of (by decide) (by decide) hy
        rw [Bool.true_and, Bool.true_and, if_pos (show true = true from rfl), nI_clamp (by omega)]
        match k, hk with
        | 0, _ => rw [if_pos (by decide)]; exact a'
        | 1, _ => rw [if_neg (by decide), if_pos (by decide)]; exact b'
        | 2, _ => rw [if_neg (by decide), if_neg (by decide), if_pos (by decide)]; exact c'
        | k + 3, hk => omega
