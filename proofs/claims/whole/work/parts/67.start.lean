/-! the start: class and reference new, the world of the run -/
def lw_hs : Nat → Bool := (va_up (va_up (va_up (va_up (va_up (va_up (va_up (va_up (fun _ => false) 0 true) 1 true) 2 true) 3 true) 4 true) 5 true) 6 true) 7 true)
def lw_rd : Nat → Int32 := (va_up (va_up (va_up (va_up (va_up (va_up (va_up (va_up (va_up (va_up (va_up (va_up (va_up (va_up (va_up (va_up (va_up (va_up (va_up (va_up (va_up (va_up (va_up (va_up (va_up (va_up (va_up (va_up (va_up (va_up (va_up (va_up (va_up (va_up (va_up (va_up (va_up (va_up (va_up (va_up (va_up (va_up (va_up (va_up (va_up (va_up (va_up (va_up (va_up (va_up (va_up (va_up (va_up (va_up (va_up (va_up (va_up (va_up (va_up (va_up (va_up (va_up (va_up (va_up (fun _ => 0) 0 (1116352408 : Int32)) 1 (1899447441 : Int32)) 2 ((-1245643825) : Int32)) 3 ((-373957723) : Int32)) 4 (961987163 : Int32)) 5 (1508970993 : Int32)) 6 ((-1841331548) : Int32)) 7 ((-1424204075) : Int32)) 8 ((-670586216) : Int32)) 9 (310598401 : Int32)) 10 (607225278 : Int32)) 11 (1426881987 : Int32)) 12 (1925078388 : Int32)) 13 ((-2132889090) : Int32)) 14 ((-1680079193) : Int32)) 15 ((-1046744716) : Int32)) 16 ((-459576895) : Int32)) 17 ((-272742522) : Int32)) 18 (264347078 : Int32)) 19 (604807628 : Int32)) 20 (770255983 : Int32)) 21 (1249150122 : Int32)) 22 (1555081692 : Int32)) 23 (1996064986 : Int32)) 24 ((-1740746414) : Int32)) 25 ((-1473132947) : Int32)) 26 ((-1341970488) : Int32)) 27 ((-1084653625) : Int32)) 28 ((-958395405) : Int32)) 29 ((-710438585) : Int32)) 30 (113926993 : Int32)) 31 (338241895 : Int32)) 32 (666307205 : Int32)) 33 (773529912 : Int32)) 34 (1294757372 : Int32)) 35 (1396182291 : Int32)) 36 (1695183700 : Int32)) 37 (1986661051 : Int32)) 38 ((-2117940946) : Int32)) 39 ((-1838011259) : Int32)) 40 ((-1564481375) : Int32)) 41 ((-1474664885) : Int32)) 42 ((-1035236496) : Int32)) 43 ((-949202525) : Int32)) 44 ((-778901479) : Int32)) 45 ((-694614492) : Int32)) 46 ((-200395387) : Int32)) 47 (275423344 : Int32)) 48 (430227734 : Int32)) 49 (506948616 : Int32)) 50 (659060556 : Int32)) 51 (883997877 : Int32)) 52 (958139571 : Int32)) 53 (1322822218 : Int32)) 54 (1537002063 : Int32)) 55 (1747873779 : Int32)) 56 (1955562222 : Int32)) 57 (2024104815 : Int32)) 58 ((-2067236844) : Int32)) 59 ((-1933114872) : Int32)) 60 ((-1866530822) : Int32)) 61 ((-1538233109) : Int32)) 62 ((-1090935817) : Int32)) 63 ((-965641998) : Int32))
theorem lw_rd_ok : ∀ t, t < 64 → lw_rd t = sha_K t := by decide +kernel
theorem cnt_0 {f : Nat → Bool} {b : Nat} (h : ∀ k, f k = false) : ∀ i, cntR f b i = 0
  | 0 => rfl
  | i + 1 => by rw [cntR_f (h _)]; exact cnt_0 h i
theorem TR_0 (hs : Nat → Bool) (sd : Nat) : TR (qM (fun _ => false) hs sd) (fun _ => 0) (fun _ => 0) (fun _ => 0) (fun _ => 0) (fun _ => True) := by
  have hq : ∀ k, qM (fun _ => false) hs sd k = false := fun k => rfl
  refine ⟨fun k h1 h2 _ => ⟨fun i hi => ?_, ?_, ?_⟩, fun r h1 h2 _ => ⟨fun i hi => ?_, ?_, ?_⟩⟩
  · unfold lfD
    rw [if_pos (cnt_0 hq 8)]
  · unfold lfS
    rw [if_pos (cnt_0 hq 8)]
  · rw [cnt_0 hq 8]; rfl
  · unfold inD
    rw [if_pos rfl]
  · unfold inS
    rw [if_pos rfl]
  · rfl
theorem SR_0 {sd : Nat} (hs1 : sd < 2) : SR sd 0 (fun _ => false) (fun _ => 0) (va_up (va_up (va_up (va_up (fun _ => false) 0 true) 1 true) 2 true) 3 true) (fun _ => 0) (fun _ => 0) (fun _ => 0) lw_hs (fun _ => false) (fun _ => 0) (fun _ => false) (fun _ => 0) := by
  refine ⟨?_, fun _ _ => rfl, fun _ _ => rfl, ?_, fun _ _ => rfl, TR_0 _ _⟩
  · rw [cnt_0 (fun _ => rfl) 256]; rfl
  · rcases (by omega : sd = 0 ∨ sd = 1) with rfl | rfl <;> decide
theorem LR_0 : LR 0 (fun _ => false) (fun _ => 0) (va_up (va_up (va_up (va_up (fun _ => false) 0 true) 1 true) 2 true) 3 true) (fun _ => 0) (fun _ => 0) (fun _ => 0) 0 (fun _ => false) (fun _ => 0) (va_up (va_up (va_up (va_up (fun _ => false) 0 true) 1 true) 2 true) 3 true) (fun _ => 0) (fun _ => 0) (fun _ => 0) 0 (fun _ => 0) (fun _ => 0) (fun _ => 0) (fun _ => 0) (fun _ => 0) (fun _ => 0) 0 0 0 (-1) (fun _ => 0) (fun _ => 0) (fun _ => 0) (fun _ => 0) (fun _ => 0) (fun _ => 0) (fun _ => 0) 2 0 0 false 0 0 0 0 false 0 0 0 lw_hs (fun _ => false) (fun _ => 0) (fun _ => false) (fun _ => 0) (fun _ => false) (fun _ => 0) (fun _ => 0) lw_rd (fun _ => 0) (fun _ => 0) (fun _ => 0) (fun _ => 0) (fun _ => 0) (fun _ => 0) (fun _ => 0) (fun _ => 0) (fun _ => 0) (fun _ => 0) (fun _ => 0) (fun _ => 0) (fun _ => 0) (fun _ => 0) (fun _ => 0) (fun _ => 0) :=
  ⟨SR_0 (by decide), SR_0 (by decide), ⟨(fun (h : false = true) => by cases h), (fun (h : false = true) => by cases h), (show (0 : Nat) ≤ 128 by decide)⟩, lw_rd_ok, ⟨rfl, fun j hj => absurd hj (Nat.not_lt_zero _), ⟨1, Or.inl rfl, (by decide), fun j hj => absurd hj (Nat.not_lt_zero _)⟩, ⟨rfl, fun j hj => absurd hj (Nat.not_lt_zero _)⟩, fun _ => rfl, (by decide), fun _ => ⟨rfl, rfl⟩, rfl, fun _ => (show (0 : Nat) < 256 by decide)⟩, ⟨rfl, (by decide), fun _ => rfl, fun j hj => absurd hj (Nat.not_lt_zero _), fun _ => (show (0 : Nat) < 256 by decide), fun _ => (show (0 : Nat) < 256 by decide)⟩⟩
/-- what holds at the law's entry: the machine, the code, the tables' words (any of lw_tbl by 'hts w (by decide +kernel)'), the script of L ints xs at the cell b, what the Statement gives of the start (any of its parts by flat_of_before) -/
def lw_At (p : Program) (s : State) (m : MethodId) (meth : Method) (c : Code) (b L : Nat) (xs : Nat → Int32) : Prop :=
  p.tables.exec = Jvm.exec ∧ c.code = code ∧ meth.sig.returnType = ret ∧ c.maxLocals = 8 ∧ s.vm.findClass R_law = some m.cls ∧ (∀ w ∈ lw_tbl, w.before #[Value.ref b] s = true) ∧ va_X b L xs s s.heap ∧ b < s.heap.size ∧ meth.locks = false ∧ (Jvm.Cond.and given_1 narrow_1).before #[Value.ref b] s = true
/-- the texts' places -/
def lw_sa (b : Nat) (s : State) (k : Nat) : Nat := match (Term.string RX4 k).eval #[Value.ref b] s none [] s with
  | some (.ref a) => a
  | _ => 0
theorem lw_str_in : ∀ q ∈ gStr, Cond.stringRef RX4 q.1 q.2 ∈ lw_tbl := by decide +kernel
theorem lw_nest_in : ∀ w ∈ gNest, w ∈ lw_tbl ∧ w.onTables = true := by decide +kernel
theorem lw_F8 : ∀ j, j < 8 → Cond.eq (.elem (.static "DigestTrees$Sha" "FIRST" "[I") (.int (Int32.ofNat j))) (.int (sha_H j)) ∈ flatC (Jvm.Cond.and given_1 narrow_1) := by decide +kernel
theorem lw_R64 : ∀ j, j < 64 → Cond.eq (.elem (.static "DigestTrees$Sha" "ROUND" "[I") (.int (Int32.ofNat j))) (.int (sha_K j)) ∈ flatC (Jvm.Cond.and given_1 narrow_1) := by decide +kernel
theorem lw_Fl : Cond.eq (.length (.static "DigestTrees$Sha" "FIRST" "[I")) (.int 8) ∈ flatC (Jvm.Cond.and given_1 narrow_1) := by decide +kernel
theorem lw_Rl : Cond.eq (.length (.static "DigestTrees$Sha" "ROUND" "[I")) (.int 64) ∈ flatC (Jvm.Cond.and given_1 narrow_1) := by decide +kernel
theorem lw_Fa : Cond.arrayOf (.static "DigestTrees$Sha" "FIRST" "[I") .int ∈ flatC (Jvm.Cond.and given_1 narrow_1) := by decide +kernel
theorem lw_Ra : Cond.arrayOf (.static "DigestTrees$Sha" "ROUND" "[I") .int ∈ flatC (Jvm.Cond.and given_1 narrow_1) := by decide +kernel
theorem lw_q1 : Cond.isRef (.static Bundle.tN "UNASSIGNED_STACK" Bundle.steD) ∈ flatC (Jvm.Cond.and given_1 narrow_1) := by decide +kernel
theorem lw_q2 : Cond.isRef (.static Bundle.tN "SUPPRESSED_SENTINEL" Bundle.listD) ∈ flatC (Jvm.Cond.and given_1 narrow_1) := by decide +kernel
theorem lw_arr {s : State} {args : Array Value} {ty : FieldType} (h : (Cond.arrayClass ty).before args s = true) : ∃ cA : ClassId, ArrOfT s cA ty ∧ s.vm.findClass ("[" ++ ty.toString) = some cA := by
  obtain ⟨cA, kA, comp, h1, h2, h3⟩ := Cond.arrayClass_spec h
  exact ⟨cA, fun n z => ⟨fun k h => (by cases h), kA, h2, comp, h3⟩, h1⟩
/-- the classes, the static rows, the texts: what the run knows -/
theorem lw_world {p : Program} {s : State} {m : MethodId} {meth : Method} {c : Code} {b L : Nat} {xs : Nat → Int32} (C0 : lw_At p s m meth c b L xs) : ∃ g : gE, gEV g (fun q => s.heap.size ≤ q) s s.heap ∧ gTH (lw_sa b s) s := by
  obtain ⟨hx, hb, hr, hml, hown, hts, hX, hbl, hlocks, hgv⟩ := id C0
  have hs := flat_of_before _ hgv
  have hA : ∀ a : Nat, a < s.heap.size → ¬ (fun q => s.heap.size ≤ q) a := fun a h => Nat.not_le.mpr h
  obtain ⟨c0, i0, k0⟩ := u_known (C := RJx00060) (T := TJx00060) (N := 6) (n := 6) hts in_wsJx000600 (hts (.instantiable RJx00060 6) (by decide +kernel))
  obtain ⟨c1, i1, k1⟩ := u_known (C := RX0) (T := TX0) (N := 3) (n := 3) hts in_wsX00 (hts (.instantiable RX0 3) (by decide +kernel))
  obtain ⟨c2, i2, k2⟩ := u_known (C := RX1) (T := TX1) (N := 7) (n := 7) hts in_wsX10 (hts (.instantiable RX1 7) (by decide +kernel))
  obtain ⟨c3, i3, k3⟩ := u_known (C := RX2) (T := TX2) (N := 9) (n := 9) hts in_wsX20 (hts (.instantiable RX2 9) (by decide +kernel))
  obtain ⟨c4, i4, k4⟩ := u_known (C := RX3) (T := TX3) (N := 8) (n := 8) hts in_wsX30 (hts (.instantiable RX3 8) (by decide +kernel))
  obtain ⟨c5, i5, k5⟩ := u_known (C := RX4) (T := TX4) (N := 5) (n := 5) hts in_wsX40 (hts (.instantiable RX4 5) (by decide +kernel))
  obtain ⟨c6, i6, k6⟩ := u_known (C := RX5) (T := TX5) (N := 34) (n := 34) hts in_wsX50 (hts (.instantiable RX5 34) (by decide +kernel))
  obtain ⟨cI, aI, fI⟩ := lw_arr (hts (.arrayClass .int) (by decide +kernel))
  obtain ⟨cJ, aJ, fJ⟩ := lw_arr (hts (.arrayClass .long) (by decide +kernel))
  obtain ⟨cZ, aZ, fZ⟩ := lw_arr (hts (.arrayClass .boolean) (by decide +kernel))
  obtain ⟨tF, hF, vF⟩ := va_Tof (N := 8) (f := fun j => .int (sha_H j)) (A := fun q => s.heap.size ≤ q) (by decide) (hs _ lw_Fa) (Cond.eq_int (hs _ lw_Fl) rfl) (fun j hj => Cond.eq_int (hs _ (lw_F8 j hj)) rfl) hA
  obtain ⟨tR, hR, vR⟩ := va_Tof (N := 64) (f := fun j => .int (sha_K j)) (A := fun q => s.heap.size ≤ q) (by decide) (hs _ lw_Ra) (Cond.eq_int (hs _ lw_Rl) rfl) (fun j hj => Cond.eq_int (hs _ (lw_R64 j hj)) rfl) hA
  refine ⟨((fun k => if k = 0 then c0 else if k = 1 then c1 else if k = 2 then c2 else if k = 3 then c3 else if k = 4 then c4 else if k = 5 then c5 else c6, fun k => if k = 0 then i0 else if k = 1 then i1 else if k = 2 then i2 else if k = 3 then i3 else if k = 4 then i4 else if k = 5 then i5 else i6), (cI, cJ, cZ), (tF, tR)), ⟨⟨?_, ?_⟩, ?_, vF, ?_, vR, ?_, ?_, ?_⟩, ?_, ?_⟩
  · intro k q hq
    match k, hq with
    | 0, hq => cases hq; exact k0
    | 1, hq => cases hq; exact k1
    | 2, hq => cases hq; exact k2
    | 3, hq => cases hq; exact k3
    | 4, hq => cases hq; exact k4
    | 5, hq => cases hq; exact k5
    | 6, hq => cases hq; exact k6
    | k + 7, hq => simp [vwCl] at hq
  · intro k q hq
    match k, hq with
    | 0, hq => cases hq; exact ⟨aI, fI⟩
    | 1, hq => cases hq; exact ⟨aJ, fJ⟩
    | 2, hq => cases hq; exact ⟨aZ, fZ⟩
    | k + 3, hq => simp [gTy] at hq
  · exact va_Zof (hts (.laysStatic "DigestTrees$Sha" "FIRST" "[I") (by decide +kernel)) (hts (.initialized "DigestTrees$Sha") (by decide +kernel)) hF hA
  · exact va_Zof (hts (.laysStatic "DigestTrees$Sha" "ROUND" "[I") (by decide +kernel)) (hts (.initialized "DigestTrees$Sha") (by decide +kernel)) hR hA
  · exact vx_Zqof (hts (.laysStatic Bundle.tN "UNASSIGNED_STACK" Bundle.steD) (by decide +kernel)) (hts (.initialized Bundle.tN) (by decide +kernel)) (hs _ lw_q1) hA
  · exact vx_Zqof (hts (.laysStatic Bundle.tN "SUPPRESSED_SENTINEL" Bundle.listD) (by decide +kernel)) (hts (.initialized Bundle.tN) (by decide +kernel)) (hs _ lw_q2) hA
  · exact fun w hw => va_Nw.of (lw_nest_in w hw).2 (hts w (lw_nest_in w hw).1)
  · exact fun w hw => va_Nw.of (List.all_eq_true.mp gThrW_ot w hw) (hts w (in_at_x4 w hw))
  · intro q hq
    have h1 := hts _ (lw_str_in q hq)
    obtain ⟨_, _, _, a, -, -, -, -, -, hev⟩ := Cond.stringRef_spec (k5.2.1) h1
    refine vk_R.of h1 ?_
    unfold lw_sa
    rw [hev]
theorem lw_f6 : ∀ j, j < 34 → defaultValue (tyX5 j) = vp_V ([.int 0, .null, .null, .null, .null, .null, .null, .null, .null, .null, .int (bI false), .int 0, .int 0, .null, .int 0, .null, .int 0, .null, .int (bI false), .int 0, .null, .null, .null, .null, .int 0, .null, .null, .null, .int 0, .null, .null, .null, .null, .null] : List Value) j := fun j hj => match j, hj with | 0, _ => rfl | 1, _ => rfl | 2, _ => rfl | 3, _ => rfl | 4, _ => rfl | 5, _ => rfl | 6, _ => rfl | 7, _ => rfl | 8, _ => rfl | 9, _ => rfl | 10, _ => rfl | 11, _ => rfl | 12, _ => rfl | 13, _ => rfl | 14, _ => rfl | 15, _ => rfl | 16, _ => rfl | 17, _ => rfl | 18, _ => rfl | 19, _ => rfl | 20, _ => rfl | 21, _ => rfl | 22, _ => rfl | 23, _ => rfl | 24, _ => rfl | 25, _ => rfl | 26, _ => rfl | 27, _ => rfl | 28, _ => rfl | 29, _ => rfl | 30, _ => rfl | 31, _ => rfl | 32, _ => rfl | 33, _ => rfl | j + 34, h => absurd h (by omega)
set_option maxHeartbeats 4000000 in
set_option maxRecDepth 100000 in
theorem whole_start {p : Program} {e : Env} {s : State} {m : MethodId} {below : List Frame} {meth : Method} {c : Code} (l : Launch) (hst : l.stackTraces = false) {b L : Nat} {xs : Nat → Int32} (hL : L ≤ 3072) (C0 : lw_At p s m meth c b L xs) : W p l e room_1 s m #[Value.ref b] below meth c s.heap [] 0 0 (lw_Z below #[Value.ref b] s) (entryFrame m ([Value.ref b] : List Value).toArray 8) := by
  obtain ⟨hx, hb, hr, hml, hown, hts, hX, hbl, hlocks, hgv⟩ := id C0
  obtain ⟨g, hEV, hTH⟩ := lw_world C0
  have C : gC p s m #[Value.ref b] meth c cL_law 8 RL wsL_lawT ret g (fun q => s.heap.size ≤ q) := ⟨hx, hb, hml, hown, fun w hw => hts w (in_wsL_lawT w hw), hr, hlocks, fun q h => h, hEV⟩
  have C9 : gC p s m #[Value.ref b] meth c cL_law 8 RL lw_tbl ret g (fun q => s.heap.size ≤ q) := ⟨hx, hb, hml, hown, hts, hr, hlocks, fun q h => h, hEV⟩
  have hbA : ¬ (fun q => s.heap.size ≤ q) b := Nat.not_le.mpr hbl
  suffices hG : G p l e room_1 s m #[Value.ref b] below meth c g (fun q => s.heap.size ≤ q) 8 0 0 (lw_Z below #[Value.ref b] s) 0 [(0, .ref b)] [] [] by
    have hl := lv_entry ([.ref b]) (n := 8) (Nat.le_of_ble_eq_true rfl)
    rw [lg_entry_eq]
    exact hG s.heap [] _ (fun k q h => by simp at h) ⟨fun i j p q h => by simp at h, fun k q h => by simp at h⟩ va_S.rf hl
  refine g_new (ci := 5) (fs := [.null, .null, .null, .null, .null]) C9 in_wsX40 tyX4 tyX4_ok (by decide +kernel) (by decide +kernel) (by decide +kernel) rfl (fun j hj => match j, hj with | 0, _ => rfl | 1, _ => rfl | 2, _ => rfl | 3, _ => rfl | 4, _ => rfl | j + 5, h => absurd h (by omega)) (Nat.le_of_ble_eq_true rfl) (Nat.le_of_ble_eq_true rfl) dL_law_0 (fun qa => ?_)
  refine g_w (w2 := [(qa, .inr (5, [.null, .null, .null, .null, .null]))]) rfl ?_
  refine g_dup C dL_law_3 rfl ?_
  refine g_callI (wr := []) C (c_X4_init l g qa) (cwI 0 C9.2.2.2.2.1 (goodIn_up gL_law_X4_init (fun w h => in_wsL_lawT w (wsL_lawT_l w h))) rfl rfl rfl (C9.2.2.2.2.1 _ (by decide +kernel)) (C9.2.2.2.2.1 _ (by decide +kernel)) (C9.2.2.2.2.1 _ (by decide +kernel)) rfl (by decide +kernel) ⟨Nat.le_of_ble_eq_true rfl, Nat.le_of_ble_eq_true rfl⟩) [0] [] rfl rfl rfl rfl rfl (by decide) rfl rfl (Nat.le_of_ble_eq_true rfl) dL_law_4 ⟨Nat.le_of_ble_eq_true rfl, Nat.le_of_ble_eq_true rfl⟩ ?_
  rintro _ _ ⟨rfl, z, o, h, y, t, rfl⟩
  refine g_st (st2 := [.ref qa]) rfl ?_
  refine g_w (w2 := [(qa, .inr (5, [.ref (z 0), .ref (o 0), .ref (h 0), .ref (y 0), .ref (t 0)])), (z 0, .inr (2, [.ref (z 1), .ref (z 2), .ref (z 3), .ref (z 4), .ref (z 5), .ref (z 6), .int 0])), (z 1, gZ g 256 (fun _ => false)), (z 2, gJ g 256 (fun _ => 0)), (z 3, gZ g 4 (va_up (va_up (va_up (va_up (fun _ => false) 0 true) 1 true) 2 true) 3 true)), (z 4, gI g 512 (fun _ => 0)), (z 5, gI g 64 (fun _ => 0)), (z 6, gI g 64 (fun _ => 0)), (o 0, .inr (2, [.ref (o 1), .ref (o 2), .ref (o 3), .ref (o 4), .ref (o 5), .ref (o 6), .int 0])), (o 1, gZ g 256 (fun _ => false)), (o 2, gJ g 256 (fun _ => 0)), (o 3, gZ g 4 (va_up (va_up (va_up (va_up (fun _ => false) 0 true) 1 true) 2 true) 3 true)), (o 4, gI g 512 (fun _ => 0)), (o 5, gI g 64 (fun _ => 0)), (o 6, gI g 64 (fun _ => 0)), (h 0, .inr (1, [.ref (h 1), .ref (h 2), .int (nI 0)])), (h 1, gI g 8 (fun _ => 0)), (h 2, gI g 64 (fun _ => 0)), (y 0, .inr (4, [.ref (y 1), .ref (y 2), .ref (y 3), .ref (y 4), .int (nI 0), .int (nI 0), .int (nI 0), .int (-1)])), (y 1, gN g 32 (fun _ => 0)), (y 2, gN g 32 (fun _ => 0)), (y 3, gI g 256 (fun _ => 0)), (y 4, gN g 256 (fun _ => 0)), (t 0, .inr (3, [.ref (t 1), .ref (t 2), .ref (t 3), .ref (t 4), .ref (t 5), .ref (t 6), .ref (t 7), .int (nI 2), .int (nI 0)])), (t 1, gI g 63 (fun _ => 0)), (t 2, gI g 63 (fun _ => 0)), (t 3, gJ g 63 (fun _ => 0)), (t 4, gI g 63 (fun _ => 0)), (t 5, gI g 256 (fun _ => 0)), (t 6, gN g 256 (fun _ => 0)), (t 7, gJ g 256 (fun _ => 0))]) rfl ?_
  refine g_astore_n (L' := [(1, .ref qa), (0, .ref b)]) C dL_law_7 rfl (by decide) rfl ?_
  refine g_new (ci := 6) (fs := [.int 0, .null, .null, .null, .null, .null, .null, .null, .null, .null, .int (bI false), .int 0, .int 0, .null, .int 0, .null, .int 0, .null, .int (bI false), .int 0, .null, .null, .null, .null, .int 0, .null, .null, .null, .int 0, .null, .null, .null, .null, .null]) C9 in_wsX50 tyX5 tyX5_ok (by decide +kernel) (by decide +kernel) (by decide +kernel) rfl lw_f6 (Nat.le_of_ble_eq_true rfl) (Nat.le_of_ble_eq_true rfl) dL_law_8 (fun qm => ?_)
  refine g_w (w2 := [(qa, .inr (5, [.ref (z 0), .ref (o 0), .ref (h 0), .ref (y 0), .ref (t 0)])), (z 0, .inr (2, [.ref (z 1), .ref (z 2), .ref (z 3), .ref (z 4), .ref (z 5), .ref (z 6), .int 0])), (z 1, gZ g 256 (fun _ => false)), (z 2, gJ g 256 (fun _ => 0)), (z 3, gZ g 4 (va_up (va_up (va_up (va_up (fun _ => false) 0 true) 1 true) 2 true) 3 true)), (z 4, gI g 512 (fun _ => 0)), (z 5, gI g 64 (fun _ => 0)), (z 6, gI g 64 (fun _ => 0)), (o 0, .inr (2, [.ref (o 1), .ref (o 2), .ref (o 3), .ref (o 4), .ref (o 5), .ref (o 6), .int 0])), (o 1, gZ g 256 (fun _ => false)), (o 2, gJ g 256 (fun _ => 0)), (o 3, gZ g 4 (va_up (va_up (va_up (va_up (fun _ => false) 0 true) 1 true) 2 true) 3 true)), (o 4, gI g 512 (fun _ => 0)), (o 5, gI g 64 (fun _ => 0)), (o 6, gI g 64 (fun _ => 0)), (h 0, .inr (1, [.ref (h 1), .ref (h 2), .int (nI 0)])), (h 1, gI g 8 (fun _ => 0)), (h 2, gI g 64 (fun _ => 0)), (y 0, .inr (4, [.ref (y 1), .ref (y 2), .ref (y 3), .ref (y 4), .int (nI 0), .int (nI 0), .int (nI 0), .int (-1)])), (y 1, gN g 32 (fun _ => 0)), (y 2, gN g 32 (fun _ => 0)), (y 3, gI g 256 (fun _ => 0)), (y 4, gN g 256 (fun _ => 0)), (t 0, .inr (3, [.ref (t 1), .ref (t 2), .ref (t 3), .ref (t 4), .ref (t 5), .ref (t 6), .ref (t 7), .int (nI 2), .int (nI 0)])), (t 1, gI g 63 (fun _ => 0)), (t 2, gI g 63 (fun _ => 0)), (t 3, gJ g 63 (fun _ => 0)), (t 4, gI g 63 (fun _ => 0)), (t 5, gI g 256 (fun _ => 0)), (t 6, gN g 256 (fun _ => 0)), (t 7, gJ g 256 (fun _ => 0)), (qm, .inr (6, [.int 0, .null, .null, .null, .null, .null, .null, .null, .null, .null, .int (bI false), .int 0, .int 0, .null, .int 0, .null, .int 0, .null, .int (bI false), .int 0, .null, .null, .null, .null, .int 0, .null, .null, .null, .int 0, .null, .null, .null, .null, .null]))]) rfl ?_
  refine g_dup C dL_law_11 rfl ?_
  refine g_callI (wr := [(qa, .inr (5, [.ref (z 0), .ref (o 0), .ref (h 0), .ref (y 0), .ref (t 0)])), (z 0, .inr (2, [.ref (z 1), .ref (z 2), .ref (z 3), .ref (z 4), .ref (z 5), .ref (z 6), .int 0])), (z 1, gZ g 256 (fun _ => false)), (z 2, gJ g 256 (fun _ => 0)), (z 3, gZ g 4 (va_up (va_up (va_up (va_up (fun _ => false) 0 true) 1 true) 2 true) 3 true)), (z 4, gI g 512 (fun _ => 0)), (z 5, gI g 64 (fun _ => 0)), (z 6, gI g 64 (fun _ => 0)), (o 0, .inr (2, [.ref (o 1), .ref (o 2), .ref (o 3), .ref (o 4), .ref (o 5), .ref (o 6), .int 0])), (o 1, gZ g 256 (fun _ => false)), (o 2, gJ g 256 (fun _ => 0)), (o 3, gZ g 4 (va_up (va_up (va_up (va_up (fun _ => false) 0 true) 1 true) 2 true) 3 true)), (o 4, gI g 512 (fun _ => 0)), (o 5, gI g 64 (fun _ => 0)), (o 6, gI g 64 (fun _ => 0)), (h 0, .inr (1, [.ref (h 1), .ref (h 2), .int (nI 0)])), (h 1, gI g 8 (fun _ => 0)), (h 2, gI g 64 (fun _ => 0)), (y 0, .inr (4, [.ref (y 1), .ref (y 2), .ref (y 3), .ref (y 4), .int (nI 0), .int (nI 0), .int (nI 0), .int (-1)])), (y 1, gN g 32 (fun _ => 0)), (y 2, gN g 32 (fun _ => 0)), (y 3, gI g 256 (fun _ => 0)), (y 4, gN g 256 (fun _ => 0)), (t 0, .inr (3, [.ref (t 1), .ref (t 2), .ref (t 3), .ref (t 4), .ref (t 5), .ref (t 6), .ref (t 7), .int (nI 2), .int (nI 0)])), (t 1, gI g 63 (fun _ => 0)), (t 2, gI g 63 (fun _ => 0)), (t 3, gJ g 63 (fun _ => 0)), (t 4, gI g 63 (fun _ => 0)), (t 5, gI g 256 (fun _ => 0)), (t 6, gN g 256 (fun _ => 0)), (t 7, gJ g 256 (fun _ => 0))]) C (c_X5_init l g qm) (cwI 0 C9.2.2.2.2.1 (goodIn_up gL_law_X5_init (fun w h => in_wsL_lawT w (wsL_lawT_l w h))) rfl rfl rfl (C9.2.2.2.2.1 _ (by decide +kernel)) (C9.2.2.2.2.1 _ (by decide +kernel)) (C9.2.2.2.2.1 _ (by decide +kernel)) rfl (by decide +kernel) ⟨Nat.le_of_ble_eq_true rfl, Nat.le_of_ble_eq_true rfl⟩) [31] [0, 1, 2, 3, 4, 5, 6, 7, 8, 9, 10, 11, 12, 13, 14, 15, 16, 17, 18, 19, 20, 21, 22, 23, 24, 25, 26, 27, 28, 29, 30] rfl rfl rfl rfl rfl (by decide) rfl rfl (Nat.le_of_ble_eq_true rfl) dL_law_12 ⟨Nat.le_of_ble_eq_true rfl, Nat.le_of_ble_eq_true rfl⟩ ?_
  rintro _ _ ⟨rfl, mm, hmm, rfl⟩
  subst hmm
  refine g_st (st2 := [.ref (mm 0)]) rfl ?_
  refine g_astore_n (L' := [(2, .ref (mm 0)), (1, .ref qa), (0, .ref b)]) C dL_law_15 rfl (by decide) rfl ?_
  refine g_iconst (v := nI 1) C dL_law_16 (by decide) ?_
  refine g_newJ (N := 1) C9 (by decide +kernel) (by decide) (by decide) (Nat.le_of_ble_eq_true rfl) (Nat.le_of_ble_eq_true rfl) dL_law_17 (fun q => ?_)
  refine g_astore_n (L' := [(3, .ref q), (2, .ref (mm 0)), (1, .ref qa), (0, .ref b)]) C dL_law_19 rfl (by decide) rfl ?_
  refine g_iconst (v := nI 0) C dL_law_20 (by decide) ?_
  refine g_istore (L' := [(4, .int (nI 0)), (3, .ref q), (2, .ref (mm 0)), (1, .ref qa), (0, .ref b)]) C dL_law_21 (by decide) rfl ?_
  refine g_widen (k := 57) (n := 14572) (by decide) (by decide) ?_
  have K : lwK p l s m meth c g (lw_sa b s) b L xs := ⟨C, hX, hbl, hbA, hL, hTH, hst⟩
  exact law_loop (e := e) (below := below) (a := fun _ => qa) (z := z) (o := o) (h := h) (y := y) (t := t) (mm := mm) (q := q) K L 0 (Nat.zero_le _) (Nat.sub_le _ _) 0 (fun _ => false) (fun _ => 0) (va_up (va_up (va_up (va_up (fun _ => false) 0 true) 1 true) 2 true) 3 true) (fun _ => 0) (fun _ => 0) (fun _ => 0) 0 (fun _ => false) (fun _ => 0) (va_up (va_up (va_up (va_up (fun _ => false) 0 true) 1 true) 2 true) 3 true) (fun _ => 0) (fun _ => 0) (fun _ => 0) 0 (fun _ => 0) (fun _ => 0) (fun _ => 0) (fun _ => 0) (fun _ => 0) (fun _ => 0) 0 0 0 (-1) (fun _ => 0) (fun _ => 0) (fun _ => 0) (fun _ => 0) (fun _ => 0) (fun _ => 0) (fun _ => 0) 2 0 0 false 0 0 0 0 false 0 0 0 lw_hs (fun _ => false) (fun _ => 0) (fun _ => false) (fun _ => 0) (fun _ => false) (fun _ => 0) (fun _ => 0) lw_rd (fun _ => 0) (fun _ => 0) (fun _ => 0) (fun _ => 0) (fun _ => 0) (fun _ => 0) (fun _ => 0) (fun _ => 0) (fun _ => 0) (fun _ => 0) (fun _ => 0) (fun _ => 0) (fun _ => 0) (fun _ => 0) (fun _ => 0) (fun _ => 0) LR_0
