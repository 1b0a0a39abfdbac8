/-! the class's sides beside the reference's rows -/
theorem cnt_q {pr ho ho2 : Nat → Bool} {b : Nat} (hb : b % 8 = 0) (h : cntR (qC pr ho ho2) b 8 ≠ 0) : ∀ j, j < 8 → qC pr ho ho2 (b + j) = pr (b + j) := by
  intro j hj
  have e : ∀ i, i < 8 → (b + i) / 64 = b / 64 := fun i hi => by omega
  cases h1 : (ho (b / 64) && ho2 (b / 64))
  · refine absurd ?_ h
    have h0 : ∀ i, i ≤ 8 → cntR (qC pr ho ho2) b i = 0 := by
      intro i
      induction i with
      | zero => intro _; rfl
      | succ i ih =>
        intro hi
        rw [cntR_f]
        · exact ih (by omega)
        · unfold qC
          rw [e i (by omega), Bool.and_assoc, h1, Bool.and_false]
    exact h0 8 (Nat.le_refl _)
  · unfold qC
    rw [e j hj, Bool.and_assoc, h1, Bool.and_true]
/-- a side's rows, held ranges and count beside the reference's -/
abbrev SR (sd : Nat) (sz : Int32) (pr : Nat → Bool) (va : Nat → Int64) (ho : Nat → Bool) (D S C : Nat → Int32) (hs tr : Nat → Bool) (vw : Nat → Int64) (kw : Nat → Bool) (kv : Nat → Int64) : Prop := (sz = nI (cntR tr (256 * sd) 256)) ∧ (∀ k, k < 256 → pr k = tr (256 * sd + k)) ∧ (∀ k, k < 256 → va k = vw (256 * sd + k)) ∧ (∀ n, n < 4 → ho n = hs (4 * sd + n)) ∧ (∀ k, k < 256 → kw (256 * sd + k) = tr (256 * sd + k)) ∧ (TR (qM kw hs sd) (fun k => kv (256 * sd + k)) D S C (fun _ => True))
theorem SR.z {sd : Nat} {sz : Int32} {pr : Nat → Bool} {va : Nat → Int64} {ho : Nat → Bool} {D S C : Nat → Int32} {hs tr : Nat → Bool} {vw : Nat → Int64} {kw : Nat → Bool} {kv : Nat → Int64} (H9 : SR sd sz pr va ho D S C hs tr vw kw kv) : sz = nI (cntR tr (256 * sd) 256) := H9.1
theorem SR.p {sd : Nat} {sz : Int32} {pr : Nat → Bool} {va : Nat → Int64} {ho : Nat → Bool} {D S C : Nat → Int32} {hs tr : Nat → Bool} {vw : Nat → Int64} {kw : Nat → Bool} {kv : Nat → Int64} (H9 : SR sd sz pr va ho D S C hs tr vw kw kv) : ∀ k, k < 256 → pr k = tr (256 * sd + k) := H9.2.1
theorem SR.v {sd : Nat} {sz : Int32} {pr : Nat → Bool} {va : Nat → Int64} {ho : Nat → Bool} {D S C : Nat → Int32} {hs tr : Nat → Bool} {vw : Nat → Int64} {kw : Nat → Bool} {kv : Nat → Int64} (H9 : SR sd sz pr va ho D S C hs tr vw kw kv) : ∀ k, k < 256 → va k = vw (256 * sd + k) := H9.2.2.1
theorem SR.h {sd : Nat} {sz : Int32} {pr : Nat → Bool} {va : Nat → Int64} {ho : Nat → Bool} {D S C : Nat → Int32} {hs tr : Nat → Bool} {vw : Nat → Int64} {kw : Nat → Bool} {kv : Nat → Int64} (H9 : SR sd sz pr va ho D S C hs tr vw kw kv) : ∀ n, n < 4 → ho n = hs (4 * sd + n) := H9.2.2.2.1
theorem SR.k {sd : Nat} {sz : Int32} {pr : Nat → Bool} {va : Nat → Int64} {ho : Nat → Bool} {D S C : Nat → Int32} {hs tr : Nat → Bool} {vw : Nat → Int64} {kw : Nat → Bool} {kv : Nat → Int64} (H9 : SR sd sz pr va ho D S C hs tr vw kw kv) : ∀ k, k < 256 → kw (256 * sd + k) = tr (256 * sd + k) := H9.2.2.2.2.1
theorem SR.t {sd : Nat} {sz : Int32} {pr : Nat → Bool} {va : Nat → Int64} {ho : Nat → Bool} {D S C : Nat → Int32} {hs tr : Nat → Bool} {vw : Nat → Int64} {kw : Nat → Bool} {kv : Nat → Int64} (H9 : SR sd sz pr va ho D S C hs tr vw kw kv) : TR (qM kw hs sd) (fun k => kv (256 * sd + k)) D S C (fun _ => True) := H9.2.2.2.2.2
/-- which rows count: the class's way is the reference's -/
def qq (hs tr : Nat → Bool) (sd k : Nat) : Bool := tr (256 * sd + k) && (hs (k / 64) && hs (4 + k / 64))
theorem qC_0 {pr ho ho2 hs tr : Nat → Bool} (hp : ∀ k, k < 256 → pr k = tr (256 * 0 + k)) (h0 : ∀ n, n < 4 → ho n = hs (4 * 0 + n)) (h1 : ∀ n, n < 4 → ho2 n = hs (4 * 1 + n)) : ∀ k, k < 256 → qC pr ho ho2 k = qM tr hs 0 k := by
  intro k hk
  unfold qC qM
  rw [hp k hk, h0 _ (by omega), h1 _ (by omega), Bool.and_assoc, show 4 * 0 + k / 64 = k / 64 by omega, show 4 * 1 = 4 from rfl]
theorem qC_1 {pr ho ho2 hs tr : Nat → Bool} (hp : ∀ k, k < 256 → pr k = tr (256 * 1 + k)) (h0 : ∀ n, n < 4 → ho n = hs (4 * 0 + n)) (h1 : ∀ n, n < 4 → ho2 n = hs (4 * 1 + n)) : ∀ k, k < 256 → qC pr ho2 ho k = qM tr hs 1 k := by
  intro k hk
  unfold qC qM
  rw [hp k hk, h0 _ (by omega), h1 _ (by omega), Bool.and_assoc, show 4 * 0 + k / 64 = k / 64 by omega, show 4 * 1 = 4 from rfl, Bool.and_comm (hs (4 + k / 64))]
theorem qM_k {kw tr hs : Nat → Bool} {sd : Nat} (h : ∀ k, k < 256 → kw (256 * sd + k) = tr (256 * sd + k)) : ∀ k, k < 256 → qM kw hs sd k = qM tr hs sd k := by
  intro k hk
  unfold qM
  rw [h k hk]
/-- leaves fi .. la made anew -/
theorem TR_re {sd fi la : Nat} {kw kw' hs hs' tr' pr' hoA hoB : Nat → Bool} {kv kv' va' : Nat → Int64} {D S C : Nat → Int32} {s : shaT} (h1 : 32 ≤ fi) (h2 : fi ≤ la) (h3 : la < 64) (T : TR (qM kw hs sd) (fun k => kv (256 * sd + k)) D S C (fun _ => True))
    (hq : ∀ k, k < 256 → qC pr' hoA hoB k = qM tr' hs' sd k) (hk : ∀ k, k < 256 → kw' (256 * sd + k) = tr' (256 * sd + k))
    (hout : ∀ k, k < 256 → ¬ (fi ≤ 32 + k / 8 ∧ 32 + k / 8 ≤ la) → qM kw hs sd k = qM tr' hs' sd k ∧ kv (256 * sd + k) = kv' (256 * sd + k))
    (hin : ∀ k, k < 256 → fi ≤ 32 + k / 8 → 32 + k / 8 ≤ la → va' k = kv' (256 * sd + k)) :
    TR (qM kw' hs' sd) (fun k => kv' (256 * sd + k)) (rmAll pr' va' (qC pr' hoA hoB) fi la (D, S, C, s, 0)).1 (rmAll pr' va' (qC pr' hoA hoB) fi la (D, S, C, s, 0)).2.1 (rmAll pr' va' (qC pr' hoA hoB) fi la (D, S, C, s, 0)).2.2.1 (fun _ => True) := by
  have T1 : TR (qM kw hs sd) (fun k => kv (256 * sd + k)) D S C (PX fi la (fi / 2) (la / 2)) := T.less (fun _ _ _ _ => trivial)
  have T2 : TR (qC pr' hoA hoB) (fun k => kv' (256 * sd + k)) D S C (PX fi la (fi / 2) (la / 2)) := T1.rows (fun k g1 g2 g3 j hj => by
    have hb : 8 * (k - 32) + j < 256 := by omega
    unfold PX at g3
    obtain ⟨a, b⟩ := hout (8 * (k - 32) + j) hb (by omega)
    exact ⟨a.trans (hq _ hb).symm, b⟩)
  have T3 := rmAll_TR (x := (D, S, C, s, 0)) h1 h2 h3 (va := va') (pr := pr') (fun k g1 g2 => ⟨fun j hj => hin _ (by omega) (by omega) (by omega), fun g3 => cnt_q (by omega) g3⟩) T2
  exact T3.rows (fun k g1 g2 _ j hj => ⟨(hq _ (by omega)).trans (qM_k hk _ (by omega)).symm, rfl⟩)
theorem lnK_in {tr kw : Nat → Bool} {b i t : Nat} (h1 : b ≤ t) (h2 : t < b + i) : lnK tr kw b i t = tr t := by
  induction i with
  | zero => omega
  | succ i ih =>
    show va_up (lnK tr kw b i) (b + i) (tr (b + i)) t = _
    by_cases q : t = b + i
    · rw [q, va_up_at]
    · rw [va_up_off _ _ q]; exact ih (by omega)
theorem lnK_off {tr kw : Nat → Bool} {b i t : Nat} (h : t < b ∨ b + i ≤ t) : lnK tr kw b i t = kw t := by
  induction i with
  | zero => rfl
  | succ i ih =>
    show va_up (lnK tr kw b i) (b + i) (tr (b + i)) t = _
    rw [va_up_off _ _ (by omega)]; exact ih (by omega)
theorem lnV_in {vw kv : Nat → Int64} {b i t : Nat} (h1 : b ≤ t) (h2 : t < b + i) : lnV vw kv b i t = vw t := by
  induction i with
  | zero => omega
  | succ i ih =>
    show va_up (lnV vw kv b i) (b + i) (vw (b + i)) t = _
    by_cases q : t = b + i
    · rw [q, va_up_at]
    · rw [va_up_off _ _ q]; exact ih (by omega)
theorem lnV_off {vw kv : Nat → Int64} {b i t : Nat} (h : t < b ∨ b + i ≤ t) : lnV vw kv b i t = kv t := by
  induction i with
  | zero => rfl
  | succ i ih =>
    show va_up (lnV vw kv b i) (b + i) (vw (b + i)) t = _
    rw [va_up_off _ _ (by omega)]; exact ih (by omega)
/-- one more, or one less, of what is so -/
theorem cntR_set {f : Nat → Bool} {b k : Nat} {v : Bool} : ∀ n, k < n → cntR (va_up f (b + k) v) b n + cond (f (b + k)) 1 0 = cntR f b n + cond v 1 0
  | 0, h => by omega
  | n + 1, h => by
    by_cases q : k = n
    · subst q
      have e : cntR (va_up f (b + k) v) b k = cntR f b k := cntR_congr (fun j hj => va_up_off _ _ (by omega))
      cases hf : f (b + k) <;> cases v
      · rw [cntR_f hf, cntR_f (va_up_at _ _ _), e]
      · rw [cntR_f hf, cntR_t (va_up_at _ _ _), e]; rfl
      · rw [cntR_t hf, cntR_f (va_up_at _ _ _), e]; rfl
      · rw [cntR_t hf, cntR_t (va_up_at _ _ _), e]
    · have ih := cntR_set (f := f) (b := b) (k := k) (v := v) n (by omega)
      have e : va_up f (b + k) v (b + n) = f (b + n) := va_up_off _ _ (by omega)
      cases hn : f (b + n)
      · rw [cntR_f hn, cntR_f (e.trans hn)]; exact ih
      · rw [cntR_t hn, cntR_t (e.trans hn)]; omega
/-- a row put, or dropped, on side sd -/
theorem SR_row {sd n u : Nat} {sz : Int32} {pr ho ho2 hs tr kw hoA hoB : Nat → Bool} {va va' vw vw' kv : Nat → Int64} {D S C : Nat → Int32} {s : shaT} {x : Bool} (hs1 : sd < 2) (hn : n < 4) (hu : 1 ≤ u) (hu2 : u ≤ 64) (R : SR sd sz pr va ho D S C hs tr vw kw kv)
    (hq : ∀ k, k < 256 → qC (va_up pr (64 * n + u - 1) x) hoA hoB k = qM (va_up tr (256 * sd + 64 * n + u - 1) x) hs sd k) (hv : ∀ k, k < 256 → va' k = vw' (256 * sd + k)) {sz' : Int32} (hz : sz' = nI (cntR (va_up tr (256 * sd + 64 * n + u - 1) x) (256 * sd) 256)) :
    SR sd sz' (va_up pr (64 * n + u - 1) x) va' ho (rmAll (va_up pr (64 * n + u - 1) x) va' (qC (va_up pr (64 * n + u - 1) x) hoA hoB) (32 + (64 * n + u - 1) / 8) (32 + (64 * n + u - 1) / 8) (D, S, C, s, 0)).1
      (rmAll (va_up pr (64 * n + u - 1) x) va' (qC (va_up pr (64 * n + u - 1) x) hoA hoB) (32 + (64 * n + u - 1) / 8) (32 + (64 * n + u - 1) / 8) (D, S, C, s, 0)).2.1
      (rmAll (va_up pr (64 * n + u - 1) x) va' (qC (va_up pr (64 * n + u - 1) x) hoA hoB) (32 + (64 * n + u - 1) / 8) (32 + (64 * n + u - 1) / 8) (D, S, C, s, 0)).2.2.1
      hs (va_up tr (256 * sd + 64 * n + u - 1) x) vw' (lnK (va_up tr (256 * sd + 64 * n + u - 1) x) kw (256 * sd + (64 * n + (u - 1) / 8 * 8)) 8) (lnV vw' kv (256 * sd + (64 * n + (u - 1) / 8 * 8)) 8) := by
  have ek : ∀ k, k < 256 → lnK (va_up tr (256 * sd + 64 * n + u - 1) x) kw (256 * sd + (64 * n + (u - 1) / 8 * 8)) 8 (256 * sd + k) = va_up tr (256 * sd + 64 * n + u - 1) x (256 * sd + k) := by
    intro k hk
    by_cases q : 64 * n + (u - 1) / 8 * 8 ≤ k ∧ k < 64 * n + (u - 1) / 8 * 8 + 8
    · exact lnK_in (by omega) (by omega)
    · rw [lnK_off (by omega), va_up_off _ _ (by omega)]
      exact R.k k hk
  refine ⟨hz, fun k hk => ?_, hv, R.h, ek, ?_⟩
  · by_cases q : k = 64 * n + u - 1
    · rw [q, va_up_at, show 256 * sd + (64 * n + u - 1) = 256 * sd + 64 * n + u - 1 by omega, va_up_at]
    · rw [va_up_off _ _ q, va_up_off _ _ (by omega)]
      exact R.p k hk
  · refine TR_re (tr' := va_up tr (256 * sd + 64 * n + u - 1) x) (by omega) (Nat.le_refl _) (by omega) R.t hq ek (fun k hk h => ⟨?_, ?_⟩) (fun k hk h h' => ?_)
    · rw [qM_k R.k k hk]
      unfold qM
      rw [va_up_off _ _ (by omega)]
    · rw [lnV_off (by omega)]
    · rw [hv k hk, lnV_in (by omega) (by omega)]
/-- the other side, where nothing of it changed -/
theorem SR_other {sd : Nat} {sz : Int32} {pr ho hs tr tr' kw kw' : Nat → Bool} {va vw vw' kv kv' : Nat → Int64} {D S C : Nat → Int32} (R : SR sd sz pr va ho D S C hs tr vw kw kv)
    (ht : ∀ k, k < 256 → tr' (256 * sd + k) = tr (256 * sd + k)) (hv : ∀ k, k < 256 → vw' (256 * sd + k) = vw (256 * sd + k)) (hk : ∀ k, k < 256 → kw' (256 * sd + k) = kw (256 * sd + k)) (hkv : ∀ k, k < 256 → kv' (256 * sd + k) = kv (256 * sd + k)) :
    SR sd sz pr va ho D S C hs tr' vw' kw' kv' := by
  refine ⟨?_, fun k h => (R.p k h).trans (ht k h).symm, fun k h => (R.v k h).trans (hv k h).symm, R.h, fun k h => ?_, ?_⟩
  · rw [R.z, cntR_congr (fun j hj => (ht j hj).symm)]
  · rw [hk k h, ht k h, R.k k h]
  · exact R.t.rows (fun k g1 g2 _ j hj => ⟨by unfold qM; rw [hk _ (by omega)], (hkv _ (by omega)).symm⟩)
/-- held or not held: node n of both sides made anew -/
theorem SR_hold {sd n : Nat} {sz : Int32} {pr ho ho' hs hs' tr kw kw' hoA hoB : Nat → Bool} {va vw kv kv' : Nat → Int64} {D S C : Nat → Int32} {s : shaT} (hs1 : sd < 2) (hn : n < 4) (R : SR sd sz pr va ho D S C hs tr vw kw kv)
    (hq : ∀ k, k < 256 → qC pr hoA hoB k = qM tr hs' sd k) (hh : ∀ m, m < 4 → ho' m = hs' (4 * sd + m)) (hhs : ∀ k, k < 256 → k / 64 ≠ n → hs' (k / 64) = hs (k / 64) ∧ hs' (4 + k / 64) = hs (4 + k / 64))
    (hk : ∀ k, k < 256 → kw' (256 * sd + k) = tr (256 * sd + k)) (hv1 : ∀ k, k < 256 → k / 64 = n → kv' (256 * sd + k) = vw (256 * sd + k)) (hv2 : ∀ k, k < 256 → k / 64 ≠ n → kv' (256 * sd + k) = kv (256 * sd + k)) :
    SR sd sz pr va ho' (rmAll pr va (qC pr hoA hoB) (32 + 8 * n) (32 + 8 * n + 8 - 1) (D, S, C, s, 0)).1 (rmAll pr va (qC pr hoA hoB) (32 + 8 * n) (32 + 8 * n + 8 - 1) (D, S, C, s, 0)).2.1 (rmAll pr va (qC pr hoA hoB) (32 + 8 * n) (32 + 8 * n + 8 - 1) (D, S, C, s, 0)).2.2.1 hs' tr vw kw' kv' := by
  refine ⟨R.z, R.p, R.v, hh, hk, ?_⟩
  refine TR_re (tr' := tr) (by omega) (by omega) (by omega) R.t hq hk (fun k hk h => ⟨?_, ?_⟩) (fun k hk h h' => ?_)
  · rw [qM_k R.k k hk]
    unfold qM
    rw [(hhs k hk (by omega)).1, (hhs k hk (by omega)).2]
  · exact (hv2 k hk (by omega)).symm
  · rw [hv1 k hk (by omega)]; exact R.v k hk
/-- everything of a side made anew -/
theorem SR_anew {sd : Nat} {sz : Int32} {pr ho hs tr kw hoA hoB : Nat → Bool} {va vw kv : Nat → Int64} {D S C : Nat → Int32} {s : shaT} (R : SR sd sz pr va ho D S C hs tr vw kw kv)
    (hq : ∀ k, k < 256 → qC pr hoA hoB k = qM tr hs sd k) :
    SR sd sz pr va ho (rmAll pr va (qC pr hoA hoB) 32 63 (D, S, C, s, 0)).1 (rmAll pr va (qC pr hoA hoB) 32 63 (D, S, C, s, 0)).2.1 (rmAll pr va (qC pr hoA hoB) 32 63 (D, S, C, s, 0)).2.2.1 hs tr vw (lnK tr kw (256 * sd + 0) (256 - 0)) (lnV vw kv (256 * sd + 0) (256 - 0)) := by
  have ek : ∀ k, k < 256 → lnK tr kw (256 * sd + 0) (256 - 0) (256 * sd + k) = tr (256 * sd + k) := fun k hk => lnK_in (by omega) (by omega)
  refine ⟨R.z, R.p, R.v, R.h, ek, ?_⟩
  refine TR_re (tr' := tr) (by omega) (by omega) (by omega) R.t hq ek (fun k hk h => absurd ⟨by omega, by omega⟩ h) (fun k hk h h' => ?_)
  rw [lnV_in (by omega) (by omega)]; exact R.v k hk
/-- poke: a value alone changes -/
theorem SR_poke {sd n u : Nat} {sz : Int32} {pr ho hs tr kw : Nat → Bool} {va vw kv : Nat → Int64} {D S C : Nat → Int32} {x : Int64} (hs1 : sd < 2) (hn : n < 4) (hu : 1 ≤ u) (hu2 : u ≤ 64) (R : SR sd sz pr va ho D S C hs tr vw kw kv) :
    SR sd sz pr (va_up va (64 * n + u - 1) (va (64 * n + u - 1) ^^^ x)) ho D S C hs tr (va_up vw (256 * sd + 64 * n + u - 1) (vw (256 * sd + 64 * n + u - 1) ^^^ x)) kw kv := by
  refine ⟨R.z, R.p, fun k hk => ?_, R.h, R.k, R.t⟩
  by_cases q : k = 64 * n + u - 1
  · rw [q, va_up_at, show 256 * sd + (64 * n + u - 1) = 256 * sd + 64 * n + u - 1 by omega, va_up_at, R.v _ (by omega), show 256 * sd + (64 * n + u - 1) = 256 * sd + 64 * n + u - 1 by omega]
  · rw [va_up_off _ _ q, va_up_off _ _ (by omega)]
    exact R.v k hk
theorem sz_row {sd n u : Nat} {sz : Int32} {pr ho hs tr kw : Nat → Bool} {va vw kv : Nat → Int64} {D S C : Nat → Int32} (hs1 : sd < 2) (hn : n < 4) (hu : 1 ≤ u) (hu2 : u ≤ 64) (R : SR sd sz pr va ho D S C hs tr vw kw kv) :
    cond (pr (64 * n + u - 1)) sz (sz + nI 1) = nI (cntR (va_up tr (256 * sd + 64 * n + u - 1) true) (256 * sd) 256) := by
  have h := cntR_set (f := tr) (b := 256 * sd) (k := 64 * n + u - 1) (v := true) 256 (by omega)
  have hp := R.p (64 * n + u - 1) (by omega)
  rw [← hp, show 256 * sd + (64 * n + u - 1) = 256 * sd + 64 * n + u - 1 by omega] at h
  rw [R.z]
  cases e : pr (64 * n + u - 1)
  · rw [e] at h
    have h' : cntR (va_up tr (256 * sd + 64 * n + u - 1) true) (256 * sd) 256 = cntR tr (256 * sd) 256 + 1 := h
    rw [h', ← nI_add]; rfl
  · rw [e] at h
    have h' : cntR (va_up tr (256 * sd + 64 * n + u - 1) true) (256 * sd) 256 + 1 = cntR tr (256 * sd) 256 + 1 := h
    rw [cond_true, Nat.succ.inj h']
theorem sz_drop {sd n u : Nat} {sz : Int32} {pr ho hs tr kw : Nat → Bool} {va vw kv : Nat → Int64} {D S C : Nat → Int32} (hs1 : sd < 2) (hn : n < 4) (hu : 1 ≤ u) (hu2 : u ≤ 64) (R : SR sd sz pr va ho D S C hs tr vw kw kv) (hp : pr (64 * n + u - 1) = true) :
    sz - nI 1 = nI (cntR (va_up tr (256 * sd + 64 * n + u - 1) false) (256 * sd) 256) := by
  have h := cntR_set (f := tr) (b := 256 * sd) (k := 64 * n + u - 1) (v := false) 256 (by omega)
  have hp' := R.p (64 * n + u - 1) (by omega)
  rw [← hp', hp, show 256 * sd + (64 * n + u - 1) = 256 * sd + 64 * n + u - 1 by omega] at h
  have h' : cntR (va_up tr (256 * sd + 64 * n + u - 1) false) (256 * sd) 256 + 1 = cntR tr (256 * sd) 256 + 0 := h
  rw [R.z, pk_sub (by omega)]
  congr 1
  omega
