/-! rows for arrays of small numbers; pure words of Walk and Table -/
abbrev gN (g : gE) (n : Nat) (f : Nat → Nat) : va_E := gI g n (fun j => nI (f j))
theorem gN_up (f : Nat → Nat) (i x : Nat) : va_up (fun j => nI (f j)) i (nI x) = fun j => nI (va_up f i x j) := by
  funext j
  unfold va_up
  by_cases h : j = i
  · rw [if_pos h, if_pos h]
  · rw [if_neg h, if_neg h]
theorem gN_cpy (f h : Nat → Nat) (a b n : Nat) : va_cpy (fun j => nI (f j)) (fun j => nI (h j)) a b n = fun j => nI (va_cpy f h a b n j) := by
  funext j
  unfold va_cpy
  by_cases q : b ≤ j ∧ j < b + n
  · rw [if_pos q, if_pos q]
  · rw [if_neg q, if_neg q]
section GR3
variable {p : Program} {l : Launch} {e : Env} {R : Room} {s : State} {m : MethodId} {args : Array Value} {below : List Frame} {meth : Method} {c : Code}
variable {cc : ByteArray} {nL cells slots pc : Nat} {own : String} {Ts : List Cond} {ret : Option FieldType} {g : gE} {A : Nat → Prop} {Q : State → Prop} {L : List (Nat × Value)} {st : List Value} {w : va_W}
theorem g_nald {a n i : Nat} {f : Nat → Nat} (C : gC p s m args meth c cc nL own Ts ret g A) (q0 : Nat) (he : w[q0]? = some (a, gN g n f)) (h : i < n) (hn : n < 2 ^ 31) (hd : decode cc pc = .ok (.iaload, 1)) (kk : G p l e R s m args below meth c g A nL cells slots Q (pc + 1) L (.int (nI (f i)) :: st) w) : G p l e R s m args below meth c g A nL cells slots Q pc L (.int (nI i) :: .ref a :: st) w := g_iald (f := fun j => nI (f j)) C q0 he h hn hd kk
theorem g_nast {a n i x : Nat} {f : Nat → Nat} (C : gC p s m args meth c cc nL own Ts ret g A) (q0 : Nat) (he : w[q0]? = some (a, gN g n f)) (h : i < n) (hn : n < 2 ^ 31) {w2 : va_W} (hw2 : w.set q0 (a, gN g n (va_up f i x)) = w2) (hd : decode cc pc = .ok (.iastore, 1)) (kk : G p l e R s m args below meth c g A nL cells slots Q (pc + 1) L st w2) : G p l e R s m args below meth c g A nL cells slots Q pc L (.int (nI x) :: .int (nI i) :: .ref a :: st) w := g_iast (f := fun j => nI (f j)) C q0 he h hn (by rw [gN_up]; exact hw2) hd kk
theorem g_copyN {index a0 a n0 n1 q0 q1 k : Nat} {f h : Nat → Nat} {w2 : va_W} (C : gC p s m args meth c cc nL own Ts ret g A) (hlink : Cond.methodLink own index arraycopyName ∈ Ts) (hnat : Cond.native arraycopyName ∈ Ts) (hstat : Cond.static arraycopyName ∈ Ts) (hini : Cond.initialized "java/lang/System" ∈ Ts)
    (ha0 : w[q0]? = some (a0, gN g n0 f)) (ha1 : w[q1]? = some (a, gN g n1 h)) (hk : k < 2 ^ 31) (h4 : k ≤ n0) (h5 : k ≤ n1) (hframes : 1 ≤ R.frames) (hlocals : (st.map fun v => v.category).sum + (nativeFrameWords "java/lang/System" "arraycopy" 5 + 11) ≤ R.locals) (hd : decode cc pc = .ok (.invokestatic index, 3)) (hw2 : w.set q1 (a, gN g n1 (va_cpy f h 0 0 k)) = w2)
    (kk : G p l e R s m args below meth c g A nL cells slots Q (pc + 3) L st w2) : G p l e R s m args below meth c g A nL cells slots Q pc L (.int (nI k) :: .int (nI 0) :: .ref a :: .int (nI 0) :: .ref a0 :: st) w := by
  intro H locs ls hP hD hS hl
  subst hw2
  have z0 : (nI 0).toNatClampNeg = 0 := nI_clamp (by decide)
  have zk : (nI k).toNatClampNeg = k := nI_clamp hk
  refine va_copyi (D := g.1) C.1 C.2.1 (by rw [C.2.2.1]; exact hl.1.symm) C.2.2.2.1 (C.2.2.2.2.1 _ hlink) (C.2.2.2.2.1 _ hnat) (C.2.2.2.2.1 _ hstat) (C.2.2.2.2.1 _ hini) C.2.2.2.2.2.2.2.2.1 hP hD hS q0 q1 0 0 ha0 ha1 rfl rfl rfl (by decide) (by decide) (nI_pos hk) (by rw [z0, zk]; omega) (by rw [z0, zk]; omega) (fun _ _ => rfl) hframes hlocals hd (fun H1 locs1 hP1 hD1 hS1 => ?_)
  rw [z0, zk, gN_cpy] at hP1 hD1
  exact kk H1 locs1 ls hP1 hD1 hS1 hl
end GR3
theorem inR_n {r lo hi : Nat} (h1 : lo ≤ r) (h2 : r < hi) (h3 : hi < 2 ^ 31) : inR (nI r) (nI lo) (nI hi) = true := by
  unfold inR
  rw [decide_eq_false (fun h => by have := (nI_ltI (by omega) (by omega)).mp h; omega), decide_eq_false (fun h => by have := (nI_leI (by omega) (by omega)).mp h; omega)]
  rfl
theorem inR_of {x lo hi : Int32} {a b : Nat} (ha : lo = nI a) (hb : hi = nI b) (hab : b < 2 ^ 31) (haa : a < 2 ^ 31) (h : inR x lo hi = true) : ∃ r, a ≤ r ∧ r < b ∧ x = nI r := by
  subst ha hb
  unfold inR at h
  simp only [Bool.and_eq_true, Bool.not_eq_true', decide_eq_false_iff_not] at h
  have h0 : ¬ x < 0 := fun q => h.1 (Int32.lt_of_lt_of_le q (nI_pos' haa))
  obtain ⟨r, hr, rfl⟩ := nI_of h0
  refine ⟨r, ?_, ?_, rfl⟩
  · exact Nat.le_of_not_lt (fun q => h.1 ((nI_ltI hr haa).mpr q))
  · exact Nat.lt_of_not_le (fun q => h.2 ((nI_leI hab hr).mpr q))
theorem lgc_eq {x y : Int64} : lg_cmp x y = 0 ↔ x = y := by
  unfold lg_cmp
  by_cases h : x > y
  · rw [if_pos h]
    refine ⟨fun q => absurd q (by decide), fun q => ?_⟩
    subst q
    exact absurd h (Int64.lt_irrefl)
  · rw [if_neg h]
    by_cases h2 : x = y
    · rw [if_pos h2]; exact ⟨fun _ => h2, fun _ => rfl⟩
    · rw [if_neg h2]; exact ⟨fun q => absurd q (by decide), fun q => absurd q h2⟩
/-- differences told so far: how many, kinds, slots -/
abbrev tdT : Type := Nat × (Nat → Int32) × (Nat → Nat)
def tellN (kind : Nat) (k : Nat) (x : tdT) : tdT := if x.1 < 256 then (x.1 + 1, va_up x.2.1 x.1 (nI kind), va_up x.2.2 x.1 k) else x
def tlS (a b d : Bool) (k : Nat) (x : tdT) : tdT := cond (a && !b) (tellN 0 k x) (cond (b && !a) (tellN 1 k x) (cond (a && d) (tellN 2 k x) x))
def neL (x y : Int64) : Bool := !decide (x = y)
theorem neL_t {x y : Int64} (h : ¬ lg_cmp x y = 0) : neL x y = true := by unfold neL; rw [decide_eq_false (fun q => h (lgc_eq.mpr q))]; rfl
theorem neL_f {x y : Int64} (h : lg_cmp x y = 0) : neL x y = false := by unfold neL; rw [decide_eq_true (lgc_eq.mp h)]; rfl
def tlL (qa qb : Nat → Bool) (va vb : Nat → Int64) (b : Nat) (x : tdT) (i : Nat) : tdT := it (fun j y => tlS (qa (b + j)) (qb (b + j)) (neL (va (b + j)) (vb (b + j))) (b + j) y) x i
/-- what a walk changes in a round: ranges to come, differences -/
abbrev wkT : Type := (Nat × (Nat → Nat)) × tdT
def adC (r : Nat) (x : Nat × (Nat → Nat)) : Nat × (Nat → Nat) := if x.1 < 32 then (x.1 + 1, va_up x.2 x.1 r) else x
noncomputable def lkA (dg dg2 : Nat → Int32) (qa qb : Nat → Bool) (va vb : Nat → Int64) (r : Nat) (x : wkT) : wkT :=
  cond (eq8 dg dg2 (8 * r) (8 * r)) x (if r < 32 then (adC (2 * r + 1) (adC (2 * r) x.1), x.2) else (x.1, tlL qa qb va vb (8 * (r - 32)) x.2 8))
noncomputable def lkL (dg dg2 : Nat → Int32) (qa qb : Nat → Bool) (va vb : Nat → Int64) (rg : Nat → Nat) (x : wkT) (i : Nat) : wkT := it (fun j y => lkA dg dg2 qa qb va vb (rg j) y) x i
def tldV0 (ts : Nat) (kd : Nat → Int32) (sl : Nat → Nat) (x y : Int32) : Int32 :=
  if (x < 0 ∨ nI ts ≤ x) ∨ nI 256 ≤ x then -1 else if y.toInt = 0 then kd x.toNatClampNeg else if y.toInt = 1 then nI (sl x.toNatClampNeg / 64) else if y.toInt = 2 then nI (sl x.toNatClampNeg % 64 + 1) else -1
/-! Table -/
def hsh (j k : Nat) (v : Int64) : Int32 := mixR (mixL (Int32.toInt64 (nI j)) 1 (nI 0)) k v
def cel (th j : Nat) (h : Int32) : Nat := j * th + h.toBitVec.toNat % th
theorem land_u32 (h : Int32) : h.toInt64 &&& 4294967295 = lN h.toBitVec.toNat := by
  apply Int64.toBitVec_inj.mp
  apply BitVec.eq_of_toNat_eq
  have e1 : (h.toInt64 &&& 4294967295).toBitVec = h.toInt64.toBitVec &&& (4294967295 : Int64).toBitVec := rfl
  have e2 : (4294967295 : Int64).toBitVec.toNat = 2 ^ 32 - 1 := by decide
  have e3 : h.toInt64.toBitVec = h.toBitVec.signExtend 64 := rfl
  rw [e1, BitVec.toNat_and, e2, Nat.and_two_pow_sub_one_eq_mod, e3]
  have e4 : (lN h.toBitVec.toNat).toBitVec = BitVec.ofNat 64 h.toBitVec.toNat := rfl
  have hlt : h.toBitVec.toNat < 2 ^ 32 := h.toBitVec.isLt
  rw [e4, BitVec.toNat_ofNat, Nat.mod_eq_of_lt (by omega : h.toBitVec.toNat < 2 ^ 64), BitVec.toNat_signExtend]
  rw [BitVec.toNat_setWidth]
  split <;> omega
theorem celE {th j : Nat} {h : Int32} (h0 : 0 < th) (h1 : th < 2 ^ 20) : nI (j * th) + Int64.toInt32 ((h.toInt64 &&& 4294967295) - (h.toInt64 &&& 4294967295) / Int32.toInt64 (nI th) * Int32.toInt64 (nI th)) = nI (cel th j h) := by
  have hlt : h.toBitVec.toNat < 2 ^ 32 := h.toBitVec.isLt
  rw [land_u32, nI_l (by omega), pk_lRem (by omega) h0 (by omega), lN_i, nI_add]
  rfl
abbrev tcT : Type := (Nat → Int32) × (Nat → Int32) × (Nat → Int64) × (Nat → Int32)
def tnS (th k : Nat) (v : Int64) (sg : Int32) (j : Nat) (x : tcT) : tcT :=
  (va_up x.1 (cel th j (hsh j k v)) (x.1 (cel th j (hsh j k v)) + sg), va_up x.2.1 (cel th j (hsh j k v)) (x.2.1 (cel th j (hsh j k v)) ^^^ nI k),
   va_up x.2.2.1 (cel th j (hsh j k v)) (x.2.2.1 (cel th j (hsh j k v)) ^^^ v), va_up x.2.2.2 (cel th j (hsh j k v)) (x.2.2.2 (cel th j (hsh j k v)) ^^^ hsh 3 k v))
def tnL (th k : Nat) (v : Int64) (sg : Int32) (x : tcT) : tcT := it (tnS th k v sg) x 3
theorem cel_lt {th j : Nat} {h : Int32} (h0 : 0 < th) (hj : j < 3) (ht : th ≤ 21) : cel th j h < 63 := by
  unfold cel
  have h1 := Nat.mod_lt h.toBitVec.toNat h0
  have h2 : j * th ≤ 2 * th := Nat.mul_le_mul_right th (by omega)
  omega
noncomputable def pur (x : tcT) (q : Nat) : Bool := @decide ((x.1 q = nI 1 ∨ x.1 q = -1) ∧ ¬ x.2.1 q < 0 ∧ x.2.1 q < nI 256 ∧ x.2.2.2 q = hsh 3 (x.2.1 q).toNatClampNeg (x.2.2.1 q)) (Classical.propDecidable _)
theorem pur_t {x : tcT} {q : Nat} (h : (x.1 q = nI 1 ∨ x.1 q = -1) ∧ ¬ x.2.1 q < 0 ∧ x.2.1 q < nI 256 ∧ x.2.2.2 q = hsh 3 (x.2.1 q).toNatClampNeg (x.2.2.1 q)) : pur x q = true := @decide_eq_true _ (Classical.propDecidable _) h
theorem pur_f {x : tcT} {q : Nat} (h : ¬ ((x.1 q = nI 1 ∨ x.1 q = -1) ∧ ¬ x.2.1 q < 0 ∧ x.2.1 q < nI 256 ∧ x.2.2.2 q = hsh 3 (x.2.1 q).toNatClampNeg (x.2.2.1 q))) : pur x q = false := @decide_eq_false _ (Classical.propDecidable _) h
theorem pur_p {x : tcT} {q : Nat} (h : pur x q = true) : (x.1 q = nI 1 ∨ x.1 q = -1) ∧ ¬ x.2.1 q < 0 ∧ x.2.1 q < nI 256 ∧ x.2.2.2 q = hsh 3 (x.2.1 q).toNatClampNeg (x.2.2.1 q) := @of_decide_eq_true _ (Classical.propDecidable _) h
theorem key_n {x : Int32} (h : ¬ x < 0) (h2 : x < nI 256) : ∃ k, k < 256 ∧ x = nI k := by
  obtain ⟨k, hk, rfl⟩ := nI_of h
  exact ⟨k, (nI_ltI hk (by decide)).mp h2, rfl⟩
/-- the first of 0 .. n - 1 that is so, or n -/
def fst (P : Nat → Bool) : Nat → Nat → Nat
  | _, 0 => 0
  | i, n + 1 => cond (P i) 0 (fst P (i + 1) n + 1)
def fpN (P : Nat → Bool) (n : Nat) : Nat := fst P 0 n
theorem fst_none {P : Nat → Bool} : ∀ (n i : Nat), (∀ q, i ≤ q → q < i + n → P q = false) → fst P i n = n
  | 0, _, _ => rfl
  | n + 1, i, h => by
    unfold fst
    rw [h i (Nat.le_refl i) (by omega), cond_false, fst_none n (i + 1) (fun q h1 h2 => h q (by omega) (by omega))]
theorem fst_some {P : Nat → Bool} : ∀ (n i j : Nat), j < n → (∀ q, i ≤ q → q < i + j → P q = false) → P (i + j) = true → fst P i n = j
  | 0, _, _, h, _, _ => by omega
  | n + 1, i, 0, _, _, h => by
    unfold fst
    rw [Nat.add_zero] at h
    rw [h, cond_true]
  | n + 1, i, j + 1, hj, h, ht => by
    unfold fst
    rw [h i (Nat.le_refl i) (by omega), cond_false, fst_some n (i + 1) j (by omega) (fun q h1 h2 => h q (by omega) (by omega)) (by rw [show i + 1 + j = i + (j + 1) by omega]; exact ht)]
theorem fpN_none {P : Nat → Bool} {n : Nat} (h : ∀ q, q < n → P q = false) : fpN P n = n := fst_none n 0 (fun q _ h2 => h q (by omega))
theorem fpN_some {P : Nat → Bool} {n j : Nat} (hj : j < n) (h : ∀ q, q < j → P q = false) (ht : P j = true) : fpN P n = j := fst_some n 0 j hj (fun q _ h2 => h q (by omega)) (by rw [Nat.zero_add]; exact ht)
theorem fpN_cases (P : Nat → Bool) (n : Nat) : (fpN P n = n ∧ ∀ q, q < n → P q = false) ∨ (fpN P n < n ∧ P (fpN P n) = true ∧ ∀ q, q < fpN P n → P q = false) := by
  by_cases h : ∃ q, q < n ∧ P q = true
  · obtain ⟨q, ⟨h1, h2⟩, h3⟩ := pk_least (fun q => q < n ∧ P q = true) h
    have h4 : ∀ j, j < q → P j = false := fun j hj => by
      cases hp : P j
      · rfl
      · exact absurd ⟨by omega, hp⟩ (h3 j hj)
    rw [fpN_some h1 h4 h2]
    exact Or.inr ⟨h1, h2, h4⟩
  · have h4 : ∀ j, j < n → P j = false := fun j hj => by
      cases hp : P j
      · rfl
      · exact absurd ⟨j, hj, hp⟩ h
    exact Or.inl ⟨fpN_none h4, h4⟩
def fpI (P : Nat → Bool) (n : Nat) : Int32 := if fpN P n < n then nI (fpN P n) else -1
noncomputable def isz (x : tcT) (n : Nat) : Bool := @decide (∀ q, q < n → x.1 q = 0 ∧ x.2.1 q = 0 ∧ x.2.2.1 q = 0 ∧ x.2.2.2 q = 0) (Classical.propDecidable _)
theorem isz_t {x : tcT} {n : Nat} (h : ∀ q, q < n → x.1 q = 0 ∧ x.2.1 q = 0 ∧ x.2.2.1 q = 0 ∧ x.2.2.2 q = 0) : isz x n = true := @decide_eq_true _ (Classical.propDecidable _) h
theorem isz_f {x : tcT} {n q : Nat} (hq : q < n) (h : ¬ (x.1 q = 0 ∧ x.2.1 q = 0 ∧ x.2.2.1 q = 0 ∧ x.2.2.2 q = 0)) : isz x n = false := @decide_eq_false _ (Classical.propDecidable _) (fun z => h (z q hq))
/-- cells, and what was found: sides, slots, values, how many -/
abbrev pkT : Type := tcT × (Nat → Int32) × (Nat → Nat) × (Nat → Int64) × Nat
def tkO (th q : Nat) (x : pkT) : pkT :=
  (tnL th (x.1.2.1 q).toNatClampNeg (x.1.2.2.1 q) (-(x.1.1 q)) x.1, va_up x.2.1 x.2.2.2.2 (if x.1.1 q = nI 1 then nI 0 else nI 1), va_up x.2.2.1 x.2.2.2.2 (x.1.2.1 q).toNatClampNeg, va_up x.2.2.2.1 x.2.2.2.2 (x.1.2.2.1 q), x.2.2.2.2 + 1)
theorem tkO_1 {th q : Nat} {x : pkT} (h : x.1.1 q = nI 1) : tkO th q x = (tnL th (x.1.2.1 q).toNatClampNeg (x.1.2.2.1 q) (-(x.1.1 q)) x.1, va_up x.2.1 x.2.2.2.2 (nI 0), va_up x.2.2.1 x.2.2.2.2 (x.1.2.1 q).toNatClampNeg, va_up x.2.2.2.1 x.2.2.2.2 (x.1.2.2.1 q), x.2.2.2.2 + 1) := by
  unfold tkO
  rw [if_pos h]
theorem tkO_2 {th q : Nat} {x : pkT} (h : ¬ x.1.1 q = nI 1) : tkO th q x = (tnL th (x.1.2.1 q).toNatClampNeg (x.1.2.2.1 q) (-(x.1.1 q)) x.1, va_up x.2.1 x.2.2.2.2 (nI 1), va_up x.2.2.1 x.2.2.2.2 (x.1.2.1 q).toNatClampNeg, va_up x.2.2.2.1 x.2.2.2.2 (x.1.2.2.1 q), x.2.2.2.2 + 1) := by
  unfold tkO
  rw [if_neg h]
noncomputable def plS (th : Nat) (x : pkT) : pkT := if fpN (pur x.1) 63 < 63 then tkO th (fpN (pur x.1) 63) x else x
noncomputable def plL (th : Nat) (x : pkT) (i : Nat) : pkT := it (fun _ y => plS th y) x i
theorem plL_stop {th : Nat} {x : pkT} {i : Nat} (h : ¬ fpN (pur (plL th x i).1) 63 < 63) : ∀ n, plL th x (i + n) = plL th x i := by
  intro n
  induction n with
  | zero => rfl
  | succ n ih =>
    show plS th (plL th x (i + n)) = _
    rw [ih]
    unfold plS
    rw [if_neg h]
def fndV (fz : Nat) (fs : Nat → Int32) (fl : Nat → Nat) (x y : Int32) : Int32 :=
  if (x < 0 ∨ nI fz ≤ x) ∨ nI 256 ≤ x then -1 else if y.toInt = 0 then fs x.toNatClampNeg else if y.toInt = 1 then nI (fl x.toNatClampNeg / 64) else if y.toInt = 2 then nI (fl x.toNatClampNeg % 64 + 1) else -1
def hasF (fz : Nat) (x : Int32) : Bool := !decide (x < 0) && !decide (nI fz ≤ x) && !decide (nI 256 ≤ x)
theorem hasF_n {fz : Nat} {x : Int32} (hz : fz < 2 ^ 31) (h : hasF fz x = true) : ∃ kk, kk < fz ∧ kk < 256 ∧ x = nI kk := by
  unfold hasF at h
  simp only [Bool.and_eq_true, Bool.not_eq_true', decide_eq_false_iff_not] at h
  obtain ⟨r, hr, rfl⟩ := nI_of h.1.1
  exact ⟨r, Nat.lt_of_not_le (fun q => h.1.2 ((nI_leI hz hr).mpr q)), Nat.lt_of_not_le (fun q => h.2 ((nI_leI (by decide) hr).mpr q)), rfl⟩
theorem hasF_i {fz kk : Nat} (h1 : kk < fz) (h2 : kk < 256) (hz : fz < 2 ^ 31) : hasF fz (nI kk) = true := by
  unfold hasF
  rw [decide_eq_false (nI_pos (by omega)), decide_eq_false (nI_ge h1 hz), decide_eq_false (nI_ge h2 (by decide))]
  rfl
theorem idx_n {fz : Nat} {x : Int32} (hz : fz < 2 ^ 31) (h1 : ¬ x < 0) (h2 : ¬ nI fz ≤ x) (h3 : x < nI 256) : ∃ kk, kk < fz ∧ kk < 256 ∧ x = nI kk := by
  obtain ⟨r, hr, rfl⟩ := nI_of h1
  exact ⟨r, Nat.lt_of_not_le (fun q => h2 ((nI_leI hz hr).mpr q)), (nI_ltI hr (by decide)).mp h3, rfl⟩
theorem fndV_in {fz : Nat} {fs : Nat → Int32} {fl : Nat → Nat} {kk : Nat} {y : Int32} (h1 : kk < fz) (h2 : kk < 256) (hz : fz < 2 ^ 31) : fndV fz fs fl (nI kk) y = if y.toInt = 0 then fs kk else if y.toInt = 1 then nI (fl kk / 64) else if y.toInt = 2 then nI (fl kk % 64 + 1) else -1 := by
  unfold fndV
  rw [if_neg (fun h => h.elim (fun h => h.elim (nI_pos (by omega)) (nI_ge h1 hz)) (nI_ge h2 (by decide))), nI_clamp (by omega)]
theorem fndV_out {fz : Nat} {fs : Nat → Int32} {fl : Nat → Nat} {x y : Int32} (h : (x < 0 ∨ nI fz ≤ x) ∨ nI 256 ≤ x) : fndV fz fs fl x y = -1 := if_pos h
theorem hasF_o {fz : Nat} {x : Int32} (h : hasF fz x = false) : (x < 0 ∨ nI fz ≤ x) ∨ nI 256 ≤ x := by
  unfold hasF at h
  simp only [Bool.and_eq_false_imp, Bool.and_eq_true, Bool.not_eq_true', decide_eq_false_iff_not, Bool.not_eq_false', decide_eq_true_eq] at h
  by_cases h1 : x < 0
  · exact Or.inl (Or.inl h1)
  · by_cases h2 : nI fz ≤ x
    · exact Or.inl (Or.inr h2)
    · exact Or.inr (h ⟨h1, h2⟩)
theorem fpI_ne {P : Nat → Bool} {n : Nat} (h : ¬ fpI P n = -1) : fpN P n < n ∧ fpI P n = nI (fpN P n) := by
  unfold fpI at h ⊢
  by_cases q : fpN P n < n
  · exact ⟨q, by rw [if_pos q]⟩
  · rw [if_neg q] at h; exact absurd rfl h
theorem fpI_eq {P : Nat → Bool} {n : Nat} (hn : n < 2 ^ 31) (h : fpI P n = -1) : ¬ fpN P n < n := by
  intro q
  unfold fpI at h
  rw [if_pos q] at h
  exact nI_pos (Nat.lt_trans q hn) (by rw [h]; decide)
theorem pur_at {x : tcT} (h : fpN (pur x) 63 < 63) : pur x (fpN (pur x) 63) = true := by
  rcases fpN_cases (pur x) 63 with h1 | h1
  · omega
  · exact h1.2.1
theorem tlS_0 {a b d : Bool} {k : Nat} {x : tdT} (ha : a = true) (hb : b = false) : tlS a b d k x = tellN 0 k x := by subst ha hb; rfl
theorem tlS_1 {a b d : Bool} {k : Nat} {x : tdT} (ha : a = false) (hb : b = true) : tlS a b d k x = tellN 1 k x := by subst ha hb; rfl
theorem tlS_2 {a b d : Bool} {k : Nat} {x : tdT} (ha : a = true) (hb : b = true) (hd : d = true) : tlS a b d k x = tellN 2 k x := by subst ha hb hd; rfl
theorem tlS_3 {a b d : Bool} {k : Nat} {x : tdT} (ha : a = true) (hb : b = true) (hd : d = false) : tlS a b d k x = x := by subst ha hb hd; rfl
theorem tlS_4 {a b d : Bool} {k : Nat} {x : tdT} (ha : a = false) (hb : b = false) : tlS a b d k x = x := by subst ha hb; rfl
theorem tellN_le (kn k : Nat) (x : tdT) : (tellN kn k x).1 ≤ x.1 + 1 := by
  unfold tellN
  split
  · exact Nat.le_refl _
  · omega
theorem tlS_le (a b d : Bool) (k : Nat) (x : tdT) : (tlS a b d k x).1 ≤ x.1 + 1 := by
  cases a <;> cases b <;> cases d <;> first | exact tellN_le _ _ _ | exact Nat.le_succ _
theorem tlL_le (qa qb : Nat → Bool) (va vb : Nat → Int64) (b : Nat) (x : tdT) (i : Nat) : (tlL qa qb va vb b x i).1 ≤ x.1 + i := by
  induction i with
  | zero => exact Nat.le_refl _
  | succ i ih =>
    have := tlS_le (qa (b + i)) (qb (b + i)) (neL (va (b + i)) (vb (b + i))) (b + i) (tlL qa qb va vb b x i)
    show (tlS (qa (b + i)) (qb (b + i)) (neL (va (b + i)) (vb (b + i))) (b + i) (tlL qa qb va vb b x i)).1 ≤ _
    omega
theorem adC_le (r : Nat) (x : Nat × (Nat → Nat)) : (adC r x).1 ≤ x.1 + 1 := by
  unfold adC
  split
  · exact Nat.le_refl _
  · omega
theorem lkA_le (dg dg2 : Nat → Int32) (qa qb : Nat → Bool) (va vb : Nat → Int64) (r : Nat) (x : wkT) : (lkA dg dg2 qa qb va vb r x).1.1 ≤ x.1.1 + 2 ∧ (lkA dg dg2 qa qb va vb r x).2.1 ≤ x.2.1 + 8 := by
  unfold lkA
  cases eq8 dg dg2 (8 * r) (8 * r)
  · rw [cond_false]
    split
    · have h1 := adC_le (2 * r) x.1
      have h2 := adC_le (2 * r + 1) (adC (2 * r) x.1)
      exact ⟨by show (adC (2 * r + 1) (adC (2 * r) x.1)).1 ≤ _; omega, Nat.le_add_right _ _⟩
    · have h1 := tlL_le qa qb va vb (8 * (r - 32)) x.2 8
      exact ⟨Nat.le_add_right _ _, h1⟩
  · rw [cond_true]
    exact ⟨Nat.le_add_right _ _, Nat.le_add_right _ _⟩
theorem lkL_le (dg dg2 : Nat → Int32) (qa qb : Nat → Bool) (va vb : Nat → Int64) (rg : Nat → Nat) (x : wkT) (i : Nat) : (lkL dg dg2 qa qb va vb rg x i).1.1 ≤ x.1.1 + 2 * i ∧ (lkL dg dg2 qa qb va vb rg x i).2.1 ≤ x.2.1 + 8 * i := by
  induction i with
  | zero => exact ⟨Nat.le_refl _, Nat.le_refl _⟩
  | succ i ih =>
    have h := lkA_le dg dg2 qa qb va vb (rg i) (lkL dg dg2 qa qb va vb rg x i)
    exact ⟨by show (lkA dg dg2 qa qb va vb (rg i) (lkL dg dg2 qa qb va vb rg x i)).1.1 ≤ _; omega, by show (lkA dg dg2 qa qb va vb (rg i) (lkL dg dg2 qa qb va vb rg x i)).2.1 ≤ _; omega⟩
