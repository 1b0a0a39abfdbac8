/-! more rows of the walk, and the pure words of SHA-256 as the class makes it -/
section GR2
variable {p : Program} {l : Launch} {e : Env} {R : Room} {s : State} {m : MethodId} {args : Array Value} {below : List Frame} {meth : Method} {c : Code}
variable {cc : ByteArray} {nL cells slots pc : Nat} {own : String} {Ts : List Cond} {ret : Option FieldType} {g : gE} {A : Nat → Prop} {Q : State → Prop} {L : List (Nat × Value)} {st : List Value} {w : va_W}
theorem g_iand_n {x y z kk : Nat} (C : gC p s m args meth c cc nL own Ts ret g A) (hd : decode cc pc = .ok (.iand, 1)) (hx : x < 2 ^ 31) (hy : (nI y).toBitVec.toNat = 2 ^ kk - 1) (hz : 2 ^ kk = z) (k : G p l e R s m args below meth c g A nL cells slots Q (pc + 1) L (.int (nI (x % z)) :: st) w) : G p l e R s m args below meth c g A nL cells slots Q pc L (.int (nI y) :: .int (nI x) :: st) w := by
  subst hz
  intro H locs ls hP hD hS hl
  refine lv_iand C.1 C.2.1 hd ?_
  rw [pk_andN (by omega) kk hy]
  exact k H locs ls hP hD hS hl
theorem g_copyF {index a n1 q1 : Nat} {f : Nat → Int32} {w2 : va_W} (C : gC p s m args meth c cc nL own Ts ret g A) (hlink : Cond.methodLink own index arraycopyName ∈ Ts) (hnat : Cond.native arraycopyName ∈ Ts) (hstat : Cond.static arraycopyName ∈ Ts) (hini : Cond.initialized "java/lang/System" ∈ Ts)
    (ha1 : w[q1]? = some (a, gI g n1 f)) (h5 : 8 ≤ n1) (hframes : 1 ≤ R.frames) (hlocals : (st.map fun v => v.category).sum + (nativeFrameWords "java/lang/System" "arraycopy" 5 + 11) ≤ R.locals) (hd : decode cc pc = .ok (.invokestatic index, 3)) (hw2 : w.set q1 (a, gI g n1 (va_cpy sha_H f 0 0 8)) = w2)
    (kk : G p l e R s m args below meth c g A nL cells slots Q (pc + 3) L st w2) : G p l e R s m args below meth c g A nL cells slots Q pc L (.int (nI 8) :: .int (nI 0) :: .ref a :: .int (nI 0) :: .ref g.2.2.1 :: st) w := by
  intro H locs ls hP hD hS hl T hT X
  subst hw2
  obtain ⟨scr, hs1, hs2, hs3, hs4, -, hs5, hs7⟩ := C.2.2.2.2.2.2.2.2.2.2.1
  have hc0 : H[g.2.2.1]? = some scr := by rw [hS.2.1 _ (Array.getElem?_eq_some_iff.mp hs1).1 hs7]; exact hs1
  have hc1 : H[a]? = some (vp_cell g.2.1.1 (n1, .inl f)) := hP q1 _ ha1
  obtain ⟨hs6, k0, hk0, cm0, hkk0⟩ := hs2
  obtain ⟨-, k1, hk1, cm1, hkk1⟩ := (C.2.2.2.2.2.2.2.2.1.2 0 _ rfl).1 n1 (fun j => .int (f j))
  have z0 : (nI 0).toNatClampNeg = 0 := nI_clamp (by decide)
  have z8 : (nI 8).toNatClampNeg = 8 := nI_clamp (by decide)
  have i0 : (nI 0).toInt = 0 := by decide
  have i8 : (nI 8).toInt = 8 := by decide
  obtain ⟨vm', X', step⟩ := X.arraycopy C.1 C.2.2.2.1 (C.2.2.2.2.1 _ hlink) (C.2.2.2.2.1 _ hnat) (C.2.2.2.2.1 _ hstat) (C.2.2.2.2.1 _ hini) (src := g.2.2.1) (dst := a) (cs := scr) (cd := vp_cell g.2.1.1 (n1, .inl f)) (srcPos := nI 0) (destPos := nI 0) (n := nI 8) (by rw [hT]; exact hc0) (by rw [hT]; exact hc1)
    hs6 (fun _ h => by cases h) hs3 (fun h => by cases h) hk0 hk1 hkk0 hkk1 (by simp [refKind]) (by decide) (by decide) (by decide)
    (by rw [i0, i8]; omega)
    (by rw [i0, i8]; show ¬ _ > ((arrV g.2.1.1 n1 (fun j => .int (f j))).slots.size : Int); rw [arrV_size]; omega)
    (fun vm₁ _ i hi => by
      rw [z8] at hi
      have e : scr.slots.getD ((nI 0).toNatClampNeg + i) .null = .int (sha_H i) := by
        rw [z0, Nat.zero_add, Array.getD_eq_getD_getElem?, hs5 _ (by omega)]
        rfl
      refine ⟨?_, ?_⟩
      · rw [e]
        rfl
      · rw [e]
        exact trivial)
    (g := F0 m pc ls (.int (nI 8) :: .int (nI 0) :: .ref a :: .int (nI 0) :: .ref g.2.2.1 :: st)) rfl (by rw [C.2.2.1]; exact hl.1) (rest := st) rfl (by rw [C.2.1]; exact hd) hframes (by show 2 * 0 + _ + _ ≤ _; omega)
  have e1 : copied scr (vp_cell g.2.1.1 (n1, .inl f)) (nI 0) (nI 0) (nI 8) = vp_cell g.2.1.1 (n1, .inl (va_cpy sha_H f (nI 0).toNatClampNeg (nI 0).toNatClampNeg (nI 8).toNatClampNeg)) := va_copiedX (fun z => .int z) scr g.2.1.1 sha_H f hs5 (by rw [z0, z8]; decide)
  rw [z0, z8] at e1
  rw [e1] at X' step
  have hla : a < H.size := (Array.getElem?_eq_some_iff.mp hc1).1
  have hheap : ((T.setVm vm').setCell a (vp_cell g.2.1.1 (n1, .inl (va_cpy sha_H f 0 0 8)))).heap = H.setIfInBounds a (vp_cell g.2.1.1 (n1, .inl (va_cpy sha_H f 0 0 8))) := by rw [← hT]; rfl
  have oq : ∀ q : Nat, q ≠ a → (H.setIfInBounds a (vp_cell g.2.1.1 (n1, .inl (va_cpy sha_H f 0 0 8))))[q]? = H[q]? := fun q hq => by simp [Array.getElem?_setIfInBounds, Ne.symm hq]
  obtain ⟨t, a1, b1⟩ := kk _ _ ls (hP.set hD ha1 (show (H.setIfInBounds a _)[a]? = some _ by simp [Array.getElem?_setIfInBounds, hla]) oq) (hD.set ha1) ⟨by simp; exact hS.1, fun q g1 g2 => by
      rw [oq q (fun e => g2 (by rw [e]; exact hD.2 q1 _ ha1))]
      exact hS.2.1 q g1 g2, fun q hq => by
      rcases List.mem_append.mp hq with h | h
      · exact hS.2.2 q h
      · obtain ⟨z, -, hz⟩ := List.mem_map.mp h
        rw [← hz]
        exact hD.2 q1 _ ha1⟩ hl _ hheap X'
  exact ⟨t, step t a1, b1⟩
end GR2
def rr (x n : Int32) : Int32 := (Int32.toUInt32 x >>> (Int32.toUInt32 n &&& Int32.toUInt32 31)).toInt32 ||| (x <<< ((-n) &&& 31))
def rl (x n : Int32) : Int32 := (x <<< (n &&& 31)) ||| (Int32.toUInt32 x >>> (Int32.toUInt32 (-n) &&& Int32.toUInt32 31)).toInt32
def us (x n : Int32) : Int32 := (Int32.toUInt32 x >>> (Int32.toUInt32 n &&& Int32.toUInt32 31)).toInt32
def sha_s0 (x : Int32) : Int32 := rr x (nI 7) ^^^ rr x (nI 18) ^^^ us x (nI 3)
def sha_s1 (x : Int32) : Int32 := rr x (nI 17) ^^^ rr x (nI 19) ^^^ us x (nI 10)
def sha_S1 (x : Int32) : Int32 := rr x (nI 6) ^^^ rr x (nI 11) ^^^ rr x (nI 25)
def sha_S0 (x : Int32) : Int32 := rr x (nI 2) ^^^ rr x (nI 13) ^^^ rr x (nI 22)
/-- word 16 + j of the schedule -/
def spr (j : Nat) (f : Nat → Int32) : Nat → Int32 := va_up f (16 + j) (sha_s1 (f (16 + j - 2)) + f (16 + j - 7) + sha_s0 (f (16 + j - 15)) + f (16 + j - 16))
def sha_one (w : Nat → Int32) (t : Nat) (f : Nat → Int32) : Int32 := f 7 + sha_S1 (f 4) + ((f 4 &&& f 5) ^^^ ((f 4 ^^^ (-1)) &&& f 6)) + sha_K t + w t
def sha_two (f : Nat → Int32) : Int32 := sha_S0 (f 0) + (((f 0 &&& f 1) ^^^ (f 0 &&& f 2)) ^^^ (f 1 &&& f 2))
/-- round t -/
def shaR (w : Nat → Int32) (t : Nat) (f : Nat → Int32) : Nat → Int32 := fun k => match k with
  | 0 => sha_one w t f + sha_two f
  | 1 => f 0
  | 2 => f 1
  | 3 => f 2
  | 4 => f 3 + sha_one w t f
  | 5 => f 4
  | 6 => f 5
  | _ => f 6
def shaAdd (f r : Nat → Int32) : Nat → Int32 := it (fun k q => va_up q k (q k + r k)) f 8
/-- byte i of a long, 0 the lowest -/
def byteAt (v : Int64) (i : Nat) : Int32 := Int64.toInt32 (Int64.toUInt64 v >>> ((Int32.toInt64 (nI (8 * i))).toUInt64 &&& Int64.toUInt64 63)).toInt64 &&& nI 255
def tkW (b : Int32) (t : Nat) (w : Nat → Int32) : Nat → Int32 := va_up w (t % 64 / 4) ((w (t % 64 / 4) <<< (nI 8 &&& 31)) ||| b)
/-- one byte more: state and words, t bytes were taken before -/
def tkB (b : Int32) (t : Nat) (x : (Nat → Int32) × (Nat → Int32)) : (Nat → Int32) × (Nat → Int32) :=
  if (t + 1) % 64 = 0 then (shaAdd x.1 (it (shaR (it spr (tkW b t x.2) 48)) x.1 64), it spr (tkW b t x.2) 48) else (x.1, tkW b t x.2)
def tkS (v : Int64) (n tk j : Nat) (x : (Nat → Int32) × (Nat → Int32)) : (Nat → Int32) × (Nat → Int32) := tkB (byteAt v (n - j - 1)) (tk + j) x
def tkL (v : Int64) (n tk : Nat) (x : (Nat → Int32) × (Nat → Int32)) : (Nat → Int32) × (Nat → Int32) := it (tkS v n tk) x n
theorem tkS_ne {v : Int64} {n tk j : Nat} {x : (Nat → Int32) × (Nat → Int32)} (h : (tk + j + 1) % 64 ≠ 0) : it (tkS v n tk) x (j + 1) = ((it (tkS v n tk) x j).1, tkW (byteAt v (n - j - 1)) (tk + j) (it (tkS v n tk) x j).2) := by
  show tkB _ _ _ = _
  unfold tkB
  rw [if_neg h]
theorem tkS_eq {v : Int64} {n tk j : Nat} {x : (Nat → Int32) × (Nat → Int32)} (h : (tk + j + 1) % 64 = 0) : it (tkS v n tk) x (j + 1) = (shaAdd (it (tkS v n tk) x j).1 (it (shaR (it spr (tkW (byteAt v (n - j - 1)) (tk + j) (it (tkS v n tk) x j).2) 48)) (it (tkS v n tk) x j).1 64), it spr (tkW (byteAt v (n - j - 1)) (tk + j) (it (tkS v n tk) x j).2) 48) := by
  show tkB _ _ _ = _
  unfold tkB
  rw [if_pos h]
theorem nI_dec {n j : Nat} (h : j < n) : nI (n - j) - 1 = nI (n - j - 1) := by
  obtain ⟨k, rfl⟩ : ∃ k, n = j + (k + 1) := ⟨n - j - 1, by omega⟩
  rw [show j + (k + 1) - j = k + 1 by omega]
  exact nI_pred k
def zN (tk : Nat) : Nat := (120 - (tk + 1) % 64) % 64
/-- the closing bytes: 128, zeros, the length -/
def tkZ (tk i : Nat) (x : (Nat → Int32) × (Nat → Int32)) : (Nat → Int32) × (Nat → Int32) := tkL 0 1 (tk + 1 + i) x
def finS (tk : Nat) (x : (Nat → Int32) × (Nat → Int32)) : (Nat → Int32) × (Nat → Int32) := tkL (8 * Int32.toInt64 (nI tk)) 8 (tk + 1 + zN tk) (it (tkZ tk) (tkL 128 1 tk x) (zN tk))
