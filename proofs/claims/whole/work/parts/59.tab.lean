/-! the table: the class's way of filling it and the reference's give the same cells -/
/-- something added into a cell -/
def ad (c : Nat) (d1 d2 : Int32) (d3 : Int64) (d4 : Int32) (x : tcT) : tcT := (va_up x.1 c (x.1 c + d1), va_up x.2.1 c (x.2.1 c ^^^ d2), va_up x.2.2.1 c (x.2.2.1 c ^^^ d3), va_up x.2.2.2 c (x.2.2.2 c ^^^ d4))
theorem up_comm {α : Type} (op : α → α → α) (hop : ∀ a b c, op (op a b) c = op (op a c) b) (f : Nat → α) (c c' : Nat) (d d' : α) : va_up (va_up f c' (op (f c') d')) c (op (va_up f c' (op (f c') d') c) d) = va_up (va_up f c (op (f c) d)) c' (op (va_up f c (op (f c) d) c') d') := by
  funext q
  by_cases h : c = c'
  · subst h
    rw [va_up_at, va_up_at, hop]
    by_cases hq : q = c
    · rw [hq, va_up_at, va_up_at]
    · rw [va_up_off _ _ hq, va_up_off _ _ hq, va_up_off _ _ hq, va_up_off _ _ hq]
  · rw [va_up_off _ _ h, va_up_off f _ (Ne.symm h)]
    by_cases hq : q = c
    · subst hq
      rw [va_up_at, va_up_off _ _ h, va_up_at]
    · rw [va_up_off _ _ hq]
      by_cases hq' : q = c'
      · rw [hq', va_up_at, va_up_at]
      · rw [va_up_off _ _ hq', va_up_off _ _ hq', va_up_off _ _ hq]
theorem add_op (a b c : Int32) : a + b + c = a + c + b := by rw [Int32.add_assoc, Int32.add_comm b, ← Int32.add_assoc]
theorem xor_op (a b c : Int32) : a ^^^ b ^^^ c = a ^^^ c ^^^ b := by rw [Int32.xor_assoc, Int32.xor_comm b, ← Int32.xor_assoc]
theorem xol_op (a b c : Int64) : a ^^^ b ^^^ c = a ^^^ c ^^^ b := by rw [Int64.xor_assoc, Int64.xor_comm b, ← Int64.xor_assoc]
theorem ad_comm (c c' : Nat) (d1 d2 e1 e2 : Int32) (d3 e3 : Int64) (d4 e4 : Int32) (x : tcT) : ad c d1 d2 d3 d4 (ad c' e1 e2 e3 e4 x) = ad c' e1 e2 e3 e4 (ad c d1 d2 d3 d4 x) := by
  unfold ad
  refine Prod.ext ?_ (Prod.ext ?_ (Prod.ext ?_ ?_))
  · exact up_comm (fun a b => a + b) add_op x.1 c c' d1 e1
  · exact up_comm (fun a b => a ^^^ b) xor_op x.2.1 c c' d2 e2
  · exact up_comm (fun a b => a ^^^ b) xol_op x.2.2.1 c c' d3 e3
  · exact up_comm (fun a b => a ^^^ b) xor_op x.2.2.2 c c' d4 e4
theorem tnS_ad (th k : Nat) (v : Int64) (sg : Int32) (j : Nat) (x : tcT) : tnS th k v sg j x = ad (cel th j (hsh j k v)) sg (nI k) v (hsh 3 k v) x := rfl
theorem tnL_3 (th k : Nat) (v : Int64) (sg : Int32) (x : tcT) : tnL th k v sg x = tnS th k v sg 2 (tnS th k v sg 1 (tnS th k v sg 0 x)) := rfl
theorem tnS_tnL (th k k' : Nat) (v v' : Int64) (sg sg' : Int32) (j : Nat) (x : tcT) : tnS th k v sg j (tnL th k' v' sg' x) = tnL th k' v' sg' (tnS th k v sg j x) := by
  rw [tnL_3, tnL_3]
  rw [tnS_ad th k, tnS_ad th k' v' sg' 2, tnS_ad th k' v' sg' 1, tnS_ad th k' v' sg' 0, ad_comm, tnS_ad th k, tnS_ad th k' v' sg' 2, tnS_ad th k' v' sg' 1, tnS_ad th k' v' sg' 0]
  rw [ad_comm (cel th j (hsh j k v)) (cel th 1 (hsh 1 k' v')), ad_comm (cel th j (hsh j k v)) (cel th 0 (hsh 0 k' v'))]
theorem tnL_comm (th k k' : Nat) (v v' : Int64) (sg sg' : Int32) (x : tcT) : tnL th k v sg (tnL th k' v' sg' x) = tnL th k' v' sg' (tnL th k v sg x) := by
  rw [tnL_3 th k, tnS_tnL, tnS_tnL, tnS_tnL, ← tnL_3]
theorem it_z {α : Type} (f : Nat → α → α) (a : α) : it f a 0 = a := rfl
/-- one side's rows put in -/
def onS (th : Nat) (q : Nat → Bool) (v : Nat → Int64) (sg : Int32) (x : tcT) (i : Nat) : tcT := it (fun k y => cond (q k) (tnL th k (v k) sg y) y) x i
theorem onS_s (th : Nat) (q : Nat → Bool) (v : Nat → Int64) (sg : Int32) (x : tcT) (i : Nat) : onS th q v sg x (i + 1) = cond (q i) (tnL th i (v i) sg (onS th q v sg x i)) (onS th q v sg x i) := by
  unfold onS
  rw [it_s]
theorem onS_z (th : Nat) (q : Nat → Bool) (v : Nat → Int64) (sg : Int32) (x : tcT) : onS th q v sg x 0 = x := by
  unfold onS
  rw [it_z]
theorem onS_tn (th : Nat) (q : Nat → Bool) (v : Nat → Int64) (sg : Int32) (k : Nat) (w : Int64) (sg' : Int32) (x : tcT) : ∀ i, tnL th k w sg' (onS th q v sg x i) = onS th q v sg (tnL th k w sg' x) i
  | 0 => by rw [onS_z, onS_z]
  | i + 1 => by
    rw [onS_s, onS_s]
    cases q i
    · exact onS_tn th q v sg k w sg' x i
    · rw [cond_true, cond_true, tnL_comm, onS_tn th q v sg k w sg' x i]
theorem tcL_s (th : Nat) (qa qb : Nat → Bool) (va vb : Nat → Int64) (x : tcT) (i : Nat) : tcL th qa qb va vb x (i + 1) = tcS th qa qb va vb i (tcL th qa qb va vb x i) := by
  unfold tcL
  rw [it_s]
theorem tcL_z (th : Nat) (qa qb : Nat → Bool) (va vb : Nat → Int64) (x : tcT) : tcL th qa qb va vb x 0 = x := by
  unfold tcL
  rw [it_z]
theorem tcL_on (th : Nat) (qa qb : Nat → Bool) (va vb : Nat → Int64) (x : tcT) : ∀ i, tcL th qa qb va vb x i = onS th qb vb (-1) (onS th qa va (nI 1) x i) i
  | 0 => by rw [tcL_z, onS_z, onS_z]
  | i + 1 => by
    rw [tcL_s, tcL_on th qa qb va vb x i, onS_s th qb]
    unfold tcS
    have e : cond (qa i) (tnL th i (va i) (nI 1) (onS th qb vb (-1) (onS th qa va (nI 1) x i) i)) (onS th qb vb (-1) (onS th qa va (nI 1) x i) i) = onS th qb vb (-1) (onS th qa va (nI 1) x (i + 1)) i := by
      rw [onS_s th qa]
      cases qa i
      · rfl
      · rw [cond_true, cond_true, onS_tn]
    rw [e]
theorem tbL_s (th : Nat) (tr hs : Nat → Bool) (vw : Nat → Int64) (x : tbT) (i : Nat) : tbL th tr hs vw x (i + 1) = tbS th tr hs vw i (tbL th tr hs vw x i) := by
  unfold tbL
  rw [it_s]
theorem onS_congr {th : Nat} {q q' : Nat → Bool} {v v' : Nat → Int64} {sg : Int32} {x : tcT} : ∀ i, (∀ k, k < i → q k = q' k) → (∀ k, k < i → v k = v' k) → onS th q v sg x i = onS th q' v' sg x i
  | 0, _, _ => by rw [onS_z, onS_z]
  | i + 1, h1, h2 => by
    rw [onS_s, onS_s, onS_congr i (fun k hk => h1 k (by omega)) (fun k hk => h2 k (by omega)), h1 i (by omega), h2 i (by omega)]
theorem tbL_0 (th : Nat) (tr hs : Nat → Bool) (vw : Nat → Int64) (x : tbT) : ∀ i, i ≤ 256 → (tbL th tr hs vw x i).1 = onS th (qM tr hs 0) (fun k => vw (256 * 0 + k)) (nI 1) x.1 i
  | 0, _ => rfl
  | i + 1, hi => by
    have ih := tbL_0 th tr hs vw x i (by omega)
    have e : (tr i && (hs (i % 256 / 64) && hs (4 + i % 256 / 64))) = qM tr hs 0 i := by
      unfold qM
      rw [Nat.mod_eq_of_lt (by omega), show 256 * 0 + i = i by omega]
    rw [onS_s]
    cases h : qM tr hs 0 i
    · rw [tbL_f (e.trans h)]; exact ih
    · rw [tbL_1 (e.trans h) (by omega), cond_true, ← ih, Nat.mod_eq_of_lt (by omega), show 256 * 0 + i = i by omega]
theorem tbL_1' (th : Nat) (tr hs : Nat → Bool) (vw : Nat → Int64) (x : tbT) : ∀ i, i ≤ 256 → (tbL th tr hs vw x (256 + i)).1 = onS th (qM tr hs 1) (fun k => vw (256 * 1 + k)) (-1) (onS th (qM tr hs 0) (fun k => vw (256 * 0 + k)) (nI 1) x.1 256) i
  | 0, _ => tbL_0 th tr hs vw x 256 (Nat.le_refl _)
  | i + 1, hi => by
    have ih := tbL_1' th tr hs vw x i (by omega)
    have em : (256 + i) % 256 = i := by omega
    have e : (tr (256 + i) && (hs ((256 + i) % 256 / 64) && hs (4 + (256 + i) % 256 / 64))) = qM tr hs 1 i := by
      unfold qM
      rw [em]
    rw [onS_s, show 256 + (i + 1) = 256 + i + 1 by omega]
    cases h : qM tr hs 1 i
    · rw [tbL_f (e.trans h)]; exact ih
    · rw [tbL_2 (e.trans h) (by omega), cond_true, ← ih, em]
/-- cells alike, where P is so -/
def EC (n : Nat) (x y : tcT) : Prop := ∀ q, q < n → x.1 q = y.1 q ∧ x.2.1 q = y.2.1 q ∧ x.2.2.1 q = y.2.2.1 q ∧ x.2.2.2 q = y.2.2.2 q
theorem up_pt {α : Type} {f g : Nat → α} {c q : Nat} (op : α → α) (h : f q = g q) : va_up f c (op (f c)) q = va_up g c (op (g c)) q := by
  by_cases e : q = c
  · subst e
    rw [va_up_at, va_up_at, h]
  · rw [va_up_off _ _ e, va_up_off _ _ e]; exact h
theorem EC_ad {n : Nat} {x y : tcT} {c : Nat} {d1 d2 : Int32} {d3 : Int64} {d4 : Int32} (h : EC n x y) : EC n (ad c d1 d2 d3 d4 x) (ad c d1 d2 d3 d4 y) := fun q hq =>
  ⟨up_pt (fun z => z + d1) (h q hq).1, up_pt (fun z => z ^^^ d2) (h q hq).2.1, up_pt (fun z => z ^^^ d3) (h q hq).2.2.1, up_pt (fun z => z ^^^ d4) (h q hq).2.2.2⟩
theorem EC_tn {n th k : Nat} {v : Int64} {sg : Int32} {x y : tcT} (h : EC n x y) : EC n (tnL th k v sg x) (tnL th k v sg y) := by
  rw [tnL_3, tnL_3]
  exact EC_ad (EC_ad (EC_ad h))
theorem EC_on {n th : Nat} {q : Nat → Bool} {v : Nat → Int64} {sg : Int32} {x y : tcT} (h : EC n x y) : ∀ i, EC n (onS th q v sg x i) (onS th q v sg y i)
  | 0 => h
  | i + 1 => by
    rw [onS_s, onS_s]
    cases q i
    · exact EC_on h i
    · exact EC_tn (EC_on h i)
/-- cells n .. 62 are empty -/
def ZC (n : Nat) (x : tcT) : Prop := ∀ q, n ≤ q → q < 63 → x.1 q = 0 ∧ x.2.1 q = 0 ∧ x.2.2.1 q = 0 ∧ x.2.2.2 q = 0
theorem ZC_ad {n : Nat} {x : tcT} {c : Nat} {d1 d2 : Int32} {d3 : Int64} {d4 : Int32} (hc : c < n) (h : ZC n x) : ZC n (ad c d1 d2 d3 d4 x) := fun q h1 h2 => by
  unfold ad
  rw [show (va_up x.1 c (x.1 c + d1), va_up x.2.1 c (x.2.1 c ^^^ d2), va_up x.2.2.1 c (x.2.2.1 c ^^^ d3), va_up x.2.2.2 c (x.2.2.2 c ^^^ d4)).1 q = x.1 q from va_up_off _ _ (by omega)]
  refine ⟨(h q h1 h2).1, ?_, ?_, ?_⟩
  · exact (va_up_off _ _ (by omega)).trans (h q h1 h2).2.1
  · exact (va_up_off _ _ (by omega)).trans (h q h1 h2).2.2.1
  · exact (va_up_off _ _ (by omega)).trans (h q h1 h2).2.2.2
theorem cel_n {th j : Nat} {h : Int32} (h0 : 0 < th) (hj : j < 3) : cel th j h < 3 * th := by
  unfold cel
  have h1 := Nat.mod_lt h.toBitVec.toNat h0
  have h2 : j * th ≤ 2 * th := Nat.mul_le_mul_right th (by omega)
  omega
theorem ZC_tn {n th k : Nat} {v : Int64} {sg : Int32} {x : tcT} (h0 : 0 < th) (hn : 3 * th = n) (h : ZC n x) : ZC n (tnL th k v sg x) := by
  subst hn
  rw [tnL_3, tnS_ad, tnS_ad, tnS_ad]
  exact ZC_ad (cel_n h0 (by decide)) (ZC_ad (cel_n h0 (by decide)) (ZC_ad (cel_n h0 (by decide)) h))
theorem ZC_on {n th : Nat} {q : Nat → Bool} {v : Nat → Int64} {sg : Int32} {x : tcT} (h0 : 0 < th) (hn : 3 * th = n) (h : ZC n x) : ∀ i, ZC n (onS th q v sg x i)
  | 0 => h
  | i + 1 => by
    rw [onS_s]
    cases q i
    · exact ZC_on h0 hn h i
    · exact ZC_tn h0 hn (ZC_on h0 hn h i)
theorem itz {α : Type} (z : α) (f : Nat → α) : ∀ i q, q < i → it (fun i g => va_up g i z) f i q = z
  | 0, q, h => by omega
  | i + 1, q, h => by
    show va_up (it (fun i g => va_up g i z) f i) i z q = z
    by_cases e : q = i
    · rw [e, va_up_at]
    · rw [va_up_off _ _ e]; exact itz z f i q (by omega)
theorem zc_0 (co : Nat → Int32) {q : Nat} (h : q < 63) : zc63 co q = 0 := itz (nI 0) co 63 q h
theorem zl_0 (vl : Nat → Int64) {q : Nat} (h : q < 63) : zl63 vl q = 0 := itz (0 : Int64) vl 63 q h
theorem pur_ec {x y : tcT} {q : Nat} (h : x.1 q = y.1 q ∧ x.2.1 q = y.2.1 q ∧ x.2.2.1 q = y.2.2.1 q ∧ x.2.2.2 q = y.2.2.2 q) : pur x q = pur y q := by
  obtain ⟨a, b, c, d⟩ := h
  cases e : pur y q
  · exact pur_f (fun z => by
      have e' := @of_decide_eq_false _ (Classical.propDecidable _) e
      exact e' (by rw [a, b, c, d] at z; exact z))
  · refine pur_t ?_
    have e' := pur_p e
    rw [a, b, c, d]; exact e'
theorem pur_z {x : tcT} {q : Nat} (h : x.1 q = 0) : pur x q = false := pur_f (fun z => by
  rw [h] at z
  rcases z.1 with z | z
  · exact absurd z (by decide)
  · exact absurd z (by decide))
/-- the first pure cell: of all, or of the n that are used -/
theorem fpN_n {x y : tcT} {n : Nat} (hn : n ≤ 63) (h : EC 63 x y) (hz : ZC n x) : (fpN (pur x) 63 < 63 ↔ fpN (pur y) n < n) ∧ (fpN (pur y) n < n → fpN (pur x) 63 = fpN (pur y) n) := by
  have he : ∀ q, q < 63 → pur x q = pur y q := fun q hq => pur_ec (h q hq)
  rcases fpN_cases (pur y) n with ⟨h1, h2⟩ | ⟨h1, h2, h3⟩
  · have e : fpN (pur x) 63 = 63 := fpN_none (fun q hq => by
      by_cases g : q < n
      · exact (he q hq).trans (h2 q g)
      · exact pur_z (hz q (by omega) hq).1)
    exact ⟨by omega, by omega⟩
  · have e : fpN (pur x) 63 = fpN (pur y) n := fpN_some (by omega) (fun q hq => (he q (by omega)).trans (h3 q hq)) ((he _ (by omega)).trans h2)
    exact ⟨by omega, fun _ => e⟩
/-- the peeling, after i cells -/
abbrev PL (n i : Nat) (x : pkT) (y : pmT) : Prop := (EC 63 x.1 y.1.1) ∧ (ZC n x.1) ∧ (x.2.2.2.2 = y.1.2.2.2.2) ∧ (∀ j, j < x.2.2.2.2 → x.2.1 j = y.1.2.1 j ∧ x.2.2.1 j = y.1.2.2.1 j ∧ x.2.2.2.1 j = y.1.2.2.2.1 j) ∧ (x.2.2.2.2 ≤ i) ∧ (∀ j, x.2.2.1 j < 256) ∧ (∀ j, y.1.2.2.1 j < 256) ∧ (y.2.1 ≤ 128)
theorem PL.e {n i : Nat} {x : pkT} {y : pmT} (H9 : PL n i x y) : EC 63 x.1 y.1.1 := H9.1
theorem PL.z {n i : Nat} {x : pkT} {y : pmT} (H9 : PL n i x y) : ZC n x.1 := H9.2.1
theorem PL.o {n i : Nat} {x : pkT} {y : pmT} (H9 : PL n i x y) : x.2.2.2.2 = y.1.2.2.2.2 := H9.2.2.1
theorem PL.f {n i : Nat} {x : pkT} {y : pmT} (H9 : PL n i x y) : ∀ j, j < x.2.2.2.2 → x.2.1 j = y.1.2.1 j ∧ x.2.2.1 j = y.1.2.2.1 j ∧ x.2.2.2.1 j = y.1.2.2.2.1 j := H9.2.2.2.1
theorem PL.b {n i : Nat} {x : pkT} {y : pmT} (H9 : PL n i x y) : x.2.2.2.2 ≤ i := H9.2.2.2.2.1
theorem PL.l {n i : Nat} {x : pkT} {y : pmT} (H9 : PL n i x y) : ∀ j, x.2.2.1 j < 256 := H9.2.2.2.2.2.1
theorem PL.m {n i : Nat} {x : pkT} {y : pmT} (H9 : PL n i x y) : ∀ j, y.1.2.2.1 j < 256 := H9.2.2.2.2.2.2.1
theorem PL.t {n i : Nat} {x : pkT} {y : pmT} (H9 : PL n i x y) : y.2.1 ≤ 128 := H9.2.2.2.2.2.2.2
theorem plL_s (th : Nat) (x : pkT) (i : Nat) : plL th x (i + 1) = plS th (plL th x i) := by
  unfold plL
  rw [it_s]
theorem pmL_s (n : Nat) (x : pmT) (i : Nat) : pmL n x (i + 1) = if fpN (pur (pmL n x i).1.1) n < n then pmS n (pmL n x i) else pmL n x i := by
  unfold pmL
  rw [it_s]
theorem PL_step {n i : Nat} {x : pkT} {y : pmT} (h1 : 6 ≤ n) (h2 : n ≤ 63) (h3 : n % 3 = 0) (H : PL n i x y) : PL n (i + 1) (plS (n / 3) x) (if fpN (pur y.1.1) n < n then pmS n y else y) := by
  obtain ⟨a, b⟩ := fpN_n h2 H.e H.z
  unfold plS
  by_cases q : fpN (pur y.1.1) n < n
  · rw [if_pos (a.mpr q), if_pos q]
    have eq := b q
    have hp := pur_atn q
    obtain ⟨kk, hkk, ekk⟩ := pur_w hp
    have hq63 : fpN (pur y.1.1) n < 63 := by omega
    obtain ⟨c1, c2, c3, c4⟩ := H.e _ hq63
    unfold pmS
    rw [eq]
    generalize fpN (pur y.1.1) n = Q at q hp ekk hq63 c1 c2 c3 c4 ⊢
    have hkey : (x.1.2.1 Q).toNatClampNeg < 256 := by rw [c2, ekk, nI_clamp (by omega)]; exact hkk
    have hkey2 : (y.1.1.2.1 Q).toNatClampNeg < 256 := by rw [ekk, nI_clamp (by omega)]; exact hkk
    refine ⟨?_, ?_, ?_, fun j hj => ?_, ?_, fun j => ?_, fun j => ?_, puT_le _ _ (show 11 ≤ 128 by decide) _⟩
    · show EC 63 (tnL (n / 3) (x.1.2.1 Q).toNatClampNeg (x.1.2.2.1 Q) (-(x.1.1 Q)) x.1) (tnL (n / 3) (y.1.1.2.1 Q).toNatClampNeg (y.1.1.2.2.1 Q) (-(y.1.1.1 Q)) y.1.1)
      rw [c1, c2, c3]
      exact EC_tn H.e
    · exact ZC_tn (by omega) (by omega) H.z
    · show x.2.2.2.2 + 1 = y.1.2.2.2.2 + 1
      rw [H.o]
    · have hj' : j < x.2.2.2.2 + 1 := hj
      show va_up x.2.1 x.2.2.2.2 (if x.1.1 Q = nI 1 then nI 0 else nI 1) j = va_up y.1.2.1 y.1.2.2.2.2 (if y.1.1.1 Q = nI 1 then nI 0 else nI 1) j ∧ va_up x.2.2.1 x.2.2.2.2 (x.1.2.1 Q).toNatClampNeg j = va_up y.1.2.2.1 y.1.2.2.2.2 (y.1.1.2.1 Q).toNatClampNeg j ∧ va_up x.2.2.2.1 x.2.2.2.2 (x.1.2.2.1 Q) j = va_up y.1.2.2.2.1 y.1.2.2.2.2 (y.1.1.2.2.1 Q) j
      rw [← H.o, c1, c2, c3]
      by_cases g : j = x.2.2.2.2
      · rw [g, va_up_at, va_up_at, va_up_at, va_up_at, va_up_at, va_up_at]; exact ⟨rfl, rfl, rfl⟩
      · rw [va_up_off _ _ g, va_up_off _ _ g, va_up_off _ _ g, va_up_off _ _ g, va_up_off _ _ g, va_up_off _ _ g]; exact H.f j (by omega)
    · show x.2.2.2.2 + 1 ≤ i + 1
      have := H.b
      omega
    · show va_up x.2.2.1 x.2.2.2.2 (x.1.2.1 Q).toNatClampNeg j < 256
      by_cases g : j = x.2.2.2.2
      · rw [g, va_up_at]; exact hkey
      · rw [va_up_off _ _ g]; exact H.l j
    · show va_up y.1.2.2.1 y.1.2.2.2.2 (y.1.1.2.1 Q).toNatClampNeg j < 256
      by_cases g : j = y.1.2.2.2.2
      · rw [g, va_up_at]; exact hkey2
      · rw [va_up_off _ _ g]; exact H.m j
  · rw [if_neg (fun z => q (a.mp z)), if_neg q]
    exact ⟨H.e, H.z, H.o, H.f, Nat.le_succ_of_le H.b, H.l, H.m, H.t⟩
theorem PL_all {n : Nat} {x : pkT} {y : pmT} (h1 : 6 ≤ n) (h2 : n ≤ 63) (h3 : n % 3 = 0) (H : PL n 0 x y) : ∀ i, PL n i (plL (n / 3) x i) (pmL n y i)
  | 0 => H
  | i + 1 => by
    rw [plL_s, pmL_s]
    exact PL_step h1 h2 h3 (PL_all h1 h2 h3 H i)
/-- the table's state -/
abbrev TB (fs : Nat → Int32) (fl : Nat → Nat) (fv : Nat → Int64) (fz : Nat) (ta : Bool) (fo : Nat) (gs : Nat → Int32) (gl : Nat → Nat) (gv : Nat → Int64) : Prop := (fz = fo) ∧ (fo ≤ 256) ∧ (ta = false → fo = 0) ∧ (∀ j, j < fo → fs j = gs j ∧ fl j = gl j ∧ fv j = gv j) ∧ (∀ j, fl j < 256) ∧ (∀ j, gl j < 256)
theorem TB.n {fs : Nat → Int32} {fl : Nat → Nat} {fv : Nat → Int64} {fz : Nat} {ta : Bool} {fo : Nat} {gs : Nat → Int32} {gl : Nat → Nat} {gv : Nat → Int64} (H9 : TB fs fl fv fz ta fo gs gl gv) : fz = fo := H9.1
theorem TB.b {fs : Nat → Int32} {fl : Nat → Nat} {fv : Nat → Int64} {fz : Nat} {ta : Bool} {fo : Nat} {gs : Nat → Int32} {gl : Nat → Nat} {gv : Nat → Int64} (H9 : TB fs fl fv fz ta fo gs gl gv) : fo ≤ 256 := H9.2.1
theorem TB.f {fs : Nat → Int32} {fl : Nat → Nat} {fv : Nat → Int64} {fz : Nat} {ta : Bool} {fo : Nat} {gs : Nat → Int32} {gl : Nat → Nat} {gv : Nat → Int64} (H9 : TB fs fl fv fz ta fo gs gl gv) : ta = false → fo = 0 := H9.2.2.1
theorem TB.e {fs : Nat → Int32} {fl : Nat → Nat} {fv : Nat → Int64} {fz : Nat} {ta : Bool} {fo : Nat} {gs : Nat → Int32} {gl : Nat → Nat} {gv : Nat → Int64} (H9 : TB fs fl fv fz ta fo gs gl gv) : ∀ j, j < fo → fs j = gs j ∧ fl j = gl j ∧ fv j = gv j := H9.2.2.2.1
theorem TB.l {fs : Nat → Int32} {fl : Nat → Nat} {fv : Nat → Int64} {fz : Nat} {ta : Bool} {fo : Nat} {gs : Nat → Int32} {gl : Nat → Nat} {gv : Nat → Int64} (H9 : TB fs fl fv fz ta fo gs gl gv) : ∀ j, fl j < 256 := H9.2.2.2.2.1
theorem TB.m {fs : Nat → Int32} {fl : Nat → Nat} {fv : Nat → Int64} {fz : Nat} {ta : Bool} {fo : Nat} {gs : Nat → Int32} {gl : Nat → Nat} {gv : Nat → Int64} (H9 : TB fs fl fv fz ta fo gs gl gv) : ∀ j, gl j < 256 := H9.2.2.2.2.2
theorem TB_table {n : Nat} {qa qb hs tr : Nat → Bool} {va vb vw : Nat → Int64} {co ky mk fs co' ky' mk' gs : Nat → Int32} {vl vl' fv gv : Nat → Int64} {fl gl : Nat → Nat} {fz fo : Nat} {ta : Bool} {tx : txT} (h1 : 6 ≤ n) (h2 : n ≤ 63) (h3 : n % 3 = 0) (ht : tx.1 ≤ 128)
    (ha : ∀ k, k < 256 → qa k = qM tr hs 0 k) (hb : ∀ k, k < 256 → qb k = qM tr hs 1 k) (hva : ∀ k, k < 256 → va k = vw (256 * 0 + k)) (hvb : ∀ k, k < 256 → vb k = vw (256 * 1 + k)) (H : TB fs fl fv fz ta fo gs gl gv) :
    PL n 256 (plL (n / 3) (tcL (n / 3) qa qb va vb (zc63 co, zc63 ky, zl63 vl, zc63 mk) 256, fs, fl, fv, 0) 256) (pmL n (pm0 n (tbF n tr hs vw co' ky' vl' mk' tx) gs gl gv) 256) := by
  refine PL_all h1 h2 h3 ?_ 256
  have e1 : EC 63 (tcL (n / 3) qa qb va vb (zc63 co, zc63 ky, zl63 vl, zc63 mk) 256) (tbF n tr hs vw co' ky' vl' mk' tx).1 := by
    rw [tcL_on, onS_congr 256 ha hva]
    rw [onS_congr (x := onS (n / 3) (qM tr hs 0) (fun k => vw (256 * 0 + k)) (nI 1) (zc63 co, zc63 ky, zl63 vl, zc63 mk) 256) 256 hb hvb]
    have e2 : (tbF n tr hs vw co' ky' vl' mk' tx).1 = onS (n / 3) (qM tr hs 1) (fun k => vw (256 * 1 + k)) (-1) (onS (n / 3) (qM tr hs 0) (fun k => vw (256 * 0 + k)) (nI 1) (zc63 co', zc63 ky', zl63 vl', zc63 mk') 256) 256 := tbL_1' (n / 3) tr hs vw ((zc63 co', zc63 ky', zl63 vl', zc63 mk'), tx) 256 (Nat.le_refl _)
    rw [e2]
    refine EC_on (EC_on (fun q hq => ?_) 256) 256
    show zc63 co q = zc63 co' q ∧ zc63 ky q = zc63 ky' q ∧ zl63 vl q = zl63 vl' q ∧ zc63 mk q = zc63 mk' q
    rw [zc_0 _ hq, zc_0 _ hq, zc_0 _ hq, zc_0 _ hq, zc_0 _ hq, zc_0 _ hq, zl_0 _ hq, zl_0 _ hq]
    exact ⟨rfl, rfl, rfl, rfl⟩
  have z1 : ZC n (tcL (n / 3) qa qb va vb (zc63 co, zc63 ky, zl63 vl, zc63 mk) 256) := by
    rw [tcL_on]
    refine ZC_on (by omega) (by omega) (ZC_on (by omega) (by omega) (fun q _ hq => ?_) 256) 256
    exact ⟨zc_0 _ hq, zc_0 _ hq, zl_0 _ hq, zc_0 _ hq⟩
  exact ⟨e1, z1, rfl, fun j hj => absurd hj (Nat.not_lt_zero _), Nat.le_refl _, H.l, H.m, puT_le _ _ (tbL_le (n / 3) tr hs vw ((zc63 co', zc63 ky', zl63 vl', zc63 mk'), tx) ht 512) _⟩
theorem PL_V {n i : Nat} {x : pkT} {y : pmT} (h2 : n ≤ 63) (H : PL n i x y) : tcV x = tabV n y := by
  have e : isz x.1 63 = isz y.1.1 n := by
    by_cases h : ∀ q, q < n → y.1.1.1 q = 0 ∧ y.1.1.2.1 q = 0 ∧ y.1.1.2.2.1 q = 0 ∧ y.1.1.2.2.2 q = 0
    · rw [isz_t h]
      refine isz_t (fun q hq => ?_)
      by_cases g : q < n
      · obtain ⟨a, b, c, d⟩ := H.e q hq
        rw [a, b, c, d]; exact h q g
      · exact H.z q (by omega) hq
    · obtain ⟨q, hq⟩ := Classical.not_forall.mp h
      obtain ⟨hq1, hq2⟩ := Classical.not_imp.mp hq
      obtain ⟨a, b, c, d⟩ := H.e q (by omega)
      rw [isz_f hq1 hq2]
      refine isz_f (q := q) (by omega) (fun z => hq2 ?_)
      rw [← a, ← b, ← c, ← d]; exact z
  unfold tcV tabV
  rw [e, H.o]
theorem PL_TB {n i : Nat} {x : pkT} {y : pmT} (hi : i ≤ 256) (H : PL n i x y) : TB x.2.1 x.2.2.1 x.2.2.2.1 x.2.2.2.2 true y.1.2.2.2.2 y.1.2.1 y.1.2.2.1 y.1.2.2.2.1 :=
  ⟨H.o, by have := H.b; rw [← H.o]; omega, (fun h => by cases h), fun j hj => H.f j (by rw [H.o]; exact hj), H.l, H.m⟩
theorem found_eq {fs gs : Nat → Int32} {fl gl : Nat → Nat} {fv gv : Nat → Int64} {fz fo : Nat} {ta : Bool} (H : TB fs fl fv fz ta fo gs gl gv) (x y : Int32) : fndV fz fs fl x y = fdV ta fo gs gl x y := by
  have hb := H.b
  unfold fdV
  cases hx : (ta && wiN x (nI 0) (nI fo - nI 1))
  · rw [if_neg (show ¬ (false = true) by decide)]
    refine fndV_out (Or.inl ?_)
    rw [H.n]
    cases ht : ta
    · rw [H.f ht]
      by_cases h0 : x < 0
      · exact Or.inl h0
      · obtain ⟨r, hr, rfl⟩ := nI_of h0
        exact Or.inr ((nI_leI (by decide) hr).mpr (Nat.zero_le _))
    · rw [ht, Bool.true_and] at hx
      exact wiN_out (by omega) hx
  · rw [if_pos (show true = true from rfl)]
    obtain ⟨r, hr, rfl⟩ := wiN_ix (by omega) ((Bool.and_eq_true _ _).mp hx).2
    obtain ⟨a, b, -⟩ := H.e r hr
    rw [fndV_in (by rw [H.n]; exact hr) (by omega) (by rw [H.n]; omega), nI_clamp (by omega), a, b]
    by_cases y0 : y = 0
    · rw [if_pos y0, if_pos (toI_0.mpr y0)]
    · rw [if_neg y0, if_neg (fun h => y0 (toI_0.mp h))]
      by_cases y1 : y = nI 1
      · rw [if_pos y1, if_pos (toI_1.mpr y1)]
      · rw [if_neg y1, if_neg (fun h => y1 (toI_1.mp h))]
        by_cases y2 : y = nI 2
        · rw [if_pos y2, if_pos (toI_2.mpr y2)]
        · rw [if_neg y2, if_neg (fun h => y2 (toI_2.mp h))]
theorem hasF_wi {fz fo : Nat} {ta : Bool} {fs gs : Nat → Int32} {fl gl : Nat → Nat} {fv gv : Nat → Int64} (H : TB fs fl fv fz ta fo gs gl gv) (x : Int32) : hasF fz x = (ta && wiN x (nI 0) (nI fo - nI 1)) := by
  have hb := H.b
  have hn := H.n
  cases hx : (ta && wiN x (nI 0) (nI fo - nI 1))
  · cases h : hasF fz x
    · rfl
    · obtain ⟨kk, h1, h2, rfl⟩ := hasF_n (by omega) h
      cases ht : ta
      · have := H.f ht; omega
      · rw [ht, Bool.true_and, wiN_ixn (by omega) (by omega)] at hx
        cases hx
  · obtain ⟨r, hr, rfl⟩ := wiN_ix (by omega) ((Bool.and_eq_true _ _).mp hx).2
    exact hasF_i (by omega) (by omega) (by omega)
/-- leaf: places and counts of a range -/
theorem leaf_eq {kw hs tr : Nat → Bool} {kv : Nat → Int64} {D S C D2 S2 C2 : Nat → Int32} {r : Nat} (T0 : TR (qM kw hs 0) (fun k => kv (256 * 0 + k)) D S C (fun _ => True)) (T1 : TR (qM kw hs 1) (fun k => kv (256 * 1 + k)) D2 S2 C2 (fun _ => True)) (k0 : ∀ k, k < 256 → kw (256 * 0 + k) = tr (256 * 0 + k)) (k1 : ∀ k, k < 256 → kw (256 * 1 + k) = tr (256 * 1 + k)) (h1 : 1 ≤ r) (h2 : r < 64) (y : Int32) : lcV C C2 r y = lefV tr hs r y := by
  have hd : 32 ≤ fLf r ∧ fLf r < 64 := (dbl_ok r h2 h1).2
  have he : 32 ≤ lLf r ∧ lLf r < 64 ∧ fLf r ≤ lLf r := (dbp_ok r h2 h1).2
  have c0 : C r = nI (mnN tr hs 0 r) := by
    rw [TR_C T0 64 r (by omega) h1 h2]
    unfold mnN
    rw [cntR_congr (fun j hj => qM_k k0 _ (by omega))]
  have c1 : C2 r = nI (mnN tr hs 1 r) := by
    rw [TR_C T1 64 r (by omega) h1 h2]
    unfold mnN
    rw [cntR_congr (fun j hj => qM_k k1 _ (by omega))]
  unfold lcV lefV
  rw [c0, c1, show 8 * (fLf r - 32) / 64 = (fLf r - 32) / 8 by omega, show (8 * (lLf r - 32) + 8 - 1) / 64 = (lLf r - 32) / 8 by omega, show 8 * (fLf r - 32) % 64 + 1 = 8 * ((fLf r - 32) % 8) + 1 by omega, show (8 * (lLf r - 32) + 8 - 1) % 64 + 1 = 8 * ((lLf r - 32) % 8) + 8 by omega]
theorem slot_pl (x y z : Int32) : (m_slot x y z = -1 ↔ (wiN x (nI 0) (nI 1) && wiN y (nI 0) (nI 3) && wiN z (nI 1) (nI 64)) = false) ∧ ((wiN x (nI 0) (nI 1) && wiN y (nI 0) (nI 3) && wiN z (nI 1) (nI 64)) = true → ∃ sd n u, sd < 2 ∧ n < 4 ∧ 1 ≤ u ∧ u ≤ 64 ∧ x = nI sd ∧ y = nI n ∧ z = nI u) := by
  cases h : (wiN x (nI 0) (nI 1) && wiN y (nI 0) (nI 3) && wiN z (nI 1) (nI 64))
  · refine ⟨⟨fun _ => rfl, fun _ => ?_⟩, fun q => by cases q⟩
    unfold m_slot
    refine if_neg (fun q => ?_)
    simp only [Bool.and_eq_true, Bool.not_eq_true', decide_eq_false_iff_not, decide_eq_true_eq] at q
    obtain ⟨⟨⟨qx, qy⟩, qz⟩, qz2⟩ := q
    obtain ⟨r1, -, a1, rfl⟩ := inR_of (a := 0) (b := 2) rfl rfl (by decide) (by decide) qx
    obtain ⟨r2, -, a2, rfl⟩ := inR_of (a := 0) (b := 4) rfl rfl (by decide) (by decide) qy
    have h0 : ¬ z < 0 := fun q => qz (Int32.lt_trans q (by decide))
    obtain ⟨r3, a3, rfl⟩ := nI_of h0
    have b1 : 1 ≤ r3 := Nat.le_of_not_lt (fun q => qz ((nI_ltI a3 (by decide)).mpr q))
    have b2 : r3 ≤ 64 := (nI_leI a3 (by decide)).mp qz2
    rw [wiN_n (by omega) (by omega) (by decide), wiN_n (by omega) (by omega) (by decide), wiN_n (by omega) (by omega) (by decide)] at h
    cases h
  · simp only [Bool.and_eq_true] at h
    obtain ⟨⟨qx, qy⟩, qz⟩ := h
    obtain ⟨r1, -, a1, rfl⟩ := wiN_of (by decide) (by decide) qx
    obtain ⟨r2, -, a2, rfl⟩ := wiN_of (by decide) (by decide) qy
    obtain ⟨r3, b3, a3, rfl⟩ := wiN_of (by decide) (by decide) qz
    refine ⟨⟨fun q => ?_, fun q => by cases q⟩, fun _ => ⟨r1, r2, r3, by omega, by omega, b3, a3, rfl, rfl, rfl⟩⟩
    exfalso
    unfold m_slot at q
    have e1 : inR (nI r1) 0 (nI 2) = true := inR_n (Nat.zero_le _) (by omega) (by decide)
    have e2 : inR (nI r2) 0 (nI 4) = true := inR_n (Nat.zero_le _) (by omega) (by decide)
    have e3 : decide (nI r3 < nI 1) = false := decide_eq_false (fun q => by have := (nI_ltI (by omega) (by decide)).mp q; omega)
    have e4 : decide (nI r3 ≤ nI 64) = true := decide_eq_true ((nI_leI (by omega) (by decide)).mpr a3)
    rw [if_pos (by rw [e1, e2, e3, e4]; rfl), pk_mul, nI_add, pk_sub (by omega)] at q
    exact nI_nm1 (by omega) q
theorem wi_in {x : Int32} {a b : Nat} (hb : b < 2 ^ 31) (ha : a ≤ b) : wiN x (nI a) (nI b) = inR x (nI a) (nI (b + 1)) ∨ b + 1 = 2 ^ 31 := by
  by_cases h : b + 1 < 2 ^ 31
  · refine Or.inl ?_
    cases e : wiN x (nI a) (nI b)
    · cases e2 : inR x (nI a) (nI (b + 1))
      · rfl
      · obtain ⟨r, h1, h2, rfl⟩ := inR_of rfl rfl h (by omega) e2
        rw [wiN_n h1 (by omega) hb] at e
        cases e
    · obtain ⟨r, h1, h2, rfl⟩ := wiN_of (by omega) hb e
      exact (inR_n h1 (by omega) h).symm
  · exact Or.inr (by omega)
theorem wi_1 (x : Int32) : wiN x (nI 0) (nI 1) = inR x 0 (nI 2) := (wi_in (a := 0) (b := 1) (by decide) (by decide)).resolve_right (by decide)
theorem wi_3 (x : Int32) : wiN x (nI 0) (nI 3) = inR x 0 (nI 4) := (wi_in (a := 0) (b := 3) (by decide) (by decide)).resolve_right (by decide)
theorem wi_31 (x : Int32) : wiN x (nI 0) (nI 31) = inR x 0 (nI 32) := (wi_in (a := 0) (b := 31) (by decide) (by decide)).resolve_right (by decide)
theorem wi_63 (x : Int32) : wiN x (nI 1) (nI 63) = inR x (nI 1) (nI 64) := (wi_in (a := 1) (b := 63) (by decide) (by decide)).resolve_right (by decide)
