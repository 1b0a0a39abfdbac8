set_option maxHeartbeats 4000000 in
set_option maxRecDepth 100000 in
theorem c_X5_thrown (l : Launch) (g : gE) (a : Nat → Nat) (th : Int32) (wk : Bool) (ro : Int32) (lo ne di : Nat) (ta : Bool) (ce fo bt : Nat) : Kt l g yX5_thrown wsX5_thrown 0 0 0 0 [.ref (a 0)] [(a 0, oM a th (bI wk) ro (nI lo) (nI ne) (nI di) (bI ta) (nI ce) (nI fo) (nI bt))] (kR (some (.int th)) [(a 0, oM a th (bI wk) ro (nI lo) (nI ne) (nI di) (bI ta) (nI ce) (nI fo) (nI bt))]) := by
  have hinX5 : ∀ w ∈ wsX50, w ∈ wsX5_thrown := by
    intro w h
    unfold wsX5_thrown
    simp only [List.mem_cons, List.mem_append]
    simp only [h, or_true, true_or]
  refine g_enter (cc := cX5_thrown) (maxL := 1) (ret := (some .int)) (own := RX5) (L := [(0, .ref (a 0))]) (by decide) rfl rfl (Nat.le_of_ble_eq_true rfl) rfl ?_
  intro p e s m args below meth c hin0 C
  refine g_aload_n C dX5_thrown_0 rfl 0 rfl ?_
  refine g_get C hinX5 0 rfl rfl 0 (by decide) (by decide +kernel) rfl rfl dX5_thrown_1 ?_
  refine g_iret C dX5_thrown_4 (by decide) (by decide) ?_
  exact ⟨rfl, rfl⟩
set_option maxHeartbeats 4000000 in
set_option maxRecDepth 100000 in
theorem c_X5_raise (l : Launch) (g : gE) (a : Nat → Nat) (th : Int32) (wk : Bool) (ro : Int32) (lo ne di : Nat) (ta : Bool) (ce fo bt : Nat) : Kt l g yX5_raise wsX5_raise 0 0 0 0 [.ref (a 0)] [(a 0, oM a th (bI wk) ro (nI lo) (nI ne) (nI di) (bI ta) (nI ce) (nI fo) (nI bt))] (kR (some (.int (nI 0))) [(a 0, oM a (nI 1) (bI wk) ro (nI lo) (nI ne) (nI di) (bI ta) (nI ce) (nI fo) (nI bt))]) := by
  have hinX5 : ∀ w ∈ wsX50, w ∈ wsX5_raise := by
    intro w h
    unfold wsX5_raise
    simp only [List.mem_cons, List.mem_append]
    simp only [h, or_true, true_or]
  refine g_enter (cc := cX5_raise) (maxL := 1) (ret := (some .int)) (own := RX5) (L := [(0, .ref (a 0))]) (by decide) rfl rfl (Nat.le_of_ble_eq_true rfl) rfl ?_
  intro p e s m args below meth c hin0 C
  refine g_aload_n C dX5_raise_0 rfl 0 rfl ?_
  refine g_iconst (v := nI 1) C dX5_raise_1 (by decide) ?_
  refine g_put (ty := .int) (w2 := [(a 0, oM a (nI 1) (bI wk) ro (nI lo) (nI ne) (nI di) (bI ta) (nI ce) (nI fo) (nI bt))]) C hinX5 0 rfl rfl 0 (by decide) (by decide +kernel) rfl tyX5 tyX5_ok nmX5 rfl (by decide +kernel) rfl rfl (Nat.le_of_ble_eq_true rfl) rfl dX5_raise_2 ?_
  refine g_iconst (v := nI 0) C dX5_raise_5 (by decide) ?_
  refine g_iret C dX5_raise_6 (by decide) (by decide) ?_
  exact ⟨rfl, rfl⟩
set_option maxHeartbeats 4000000 in
set_option maxRecDepth 100000 in
theorem c_X5_within (l : Launch) (g : gE) (x y z : Int32) : Kt l g yX5_within wsX5_within 0 0 0 0 [.int x, .int y, .int z] [] (kR (some (.int (bI (wiN x y z)))) []) := by
  refine g_enter (cc := cX5_within) (maxL := 3) (ret := (some .boolean)) (own := RX5) (L := [(0, .int x), (1, .int y), (2, .int z)]) (by decide) rfl rfl (Nat.le_of_ble_eq_true rfl) rfl ?_
  intro p e s m args below meth c hin0 C
  refine g_iload_n C dX5_within_0 rfl 0 rfl ?_
  refine g_iload_n C dX5_within_1 rfl 1 rfl ?_
  refine g_icmp_lt (tgt := 14) C dX5_within_2 (by decide) (fun c2 => ?_) (fun c2 => ?_)
  · skip
    refine g_iconst (v := nI 0) C dX5_within_14 (by decide) ?_
    refine g_st (st2 := [.int (bI false)]) rfl ?_
    refine g_zret C dX5_within_15 (by decide) (by decide) ?_
    refine ⟨congrArg (fun b => some (Value.int (bI b))) ?_, rfl⟩
    first | (simp [wiN, c2, c7]; done) | (simp [wiN, c2]; done)
  · skip
    refine g_iload_n C dX5_within_5 rfl 0 rfl ?_
    refine g_iload_n C dX5_within_6 rfl 2 rfl ?_
    refine g_icmp_gt (tgt := 14) C dX5_within_7 (by decide) (fun c7 => ?_) (fun c7 => ?_)
    · skip
      refine g_iconst (v := nI 0) C dX5_within_14 (by decide) ?_
      refine g_st (st2 := [.int (bI false)]) rfl ?_
      refine g_zret C dX5_within_15 (by decide) (by decide) ?_
      refine ⟨congrArg (fun b => some (Value.int (bI b))) ?_, rfl⟩
      first | (simp [wiN, c2, c7]; done) | (simp [wiN, c2]; done)
    · skip
      refine g_iconst (v := nI 1) C dX5_within_10 (by decide) ?_
      refine g_goto (tgt := 15) C dX5_within_11 (by decide) ?_
      refine g_st (st2 := [.int (bI true)]) rfl ?_
      refine g_zret C dX5_within_15 (by decide) (by decide) ?_
      refine ⟨congrArg (fun b => some (Value.int (bI b))) ?_, rfl⟩
      first | (simp [wiN, c2, c7]; done) | (simp [wiN, c2]; done)
set_option maxHeartbeats 4000000 in
set_option maxRecDepth 100000 in
theorem c_X5_at (l : Launch) (g : gE) (sd n u : Nat) (h1 : sd < 2) (h2 : n < 4) (h3 : 1 ≤ u) (h4 : u ≤ 64) : Kt l g yX5_at wsX5_at 0 0 0 0 [.int (nI sd), .int (nI n), .int (nI u)] [] (kR (some (.int (nI (256 * sd + 64 * n + u - 1)))) []) := by
  refine g_enter (cc := cX5_at) (maxL := 3) (ret := (some .int)) (own := RX5) (L := [(0, .int (nI sd)), (1, .int (nI n)), (2, .int (nI u))]) (by decide) rfl rfl (Nat.le_of_ble_eq_true rfl) rfl ?_
  intro p e s m args below meth c hin0 C
  refine g_sipush (v := nI 256) C dX5_at_0 (by decide) ?_
  refine g_iload_n C dX5_at_3 rfl 0 rfl ?_
  refine g_imul_n C dX5_at_4 ?_
  refine g_bipush (v := nI 64) C dX5_at_5 (by decide) ?_
  refine g_iload_n C dX5_at_7 rfl 1 rfl ?_
  refine g_imul_n C dX5_at_8 ?_
  refine g_iadd_n C dX5_at_9 ?_
  refine g_iload_n C dX5_at_10 rfl 2 rfl ?_
  refine g_iadd_n C dX5_at_11 ?_
  refine g_iconst (v := nI 1) C dX5_at_12 (by decide) ?_
  refine g_isub_n C dX5_at_13 (by omega) ?_
  refine g_iret C dX5_at_14 (by decide) (by decide) ?_
  exact ⟨rfl, rfl⟩
set_option maxHeartbeats 4000000 in
set_option maxRecDepth 100000 in
theorem c_X5_isPlace (l : Launch) (g : gE) (x y z : Int32) : Kt l g yX5_isPlace wsX5_isPlace 1 22 0 0 [.int x, .int y, .int z] [] (kR (some (.int (bI (wiN x (nI 0) (nI 1) && wiN y (nI 0) (nI 3) && wiN z (nI 1) (nI 64))))) []) := by
  refine g_enter (cc := cX5_isPlace) (maxL := 3) (ret := (some .boolean)) (own := RX5) (L := [(0, .int x), (1, .int y), (2, .int z)]) (by decide) rfl rfl (Nat.le_of_ble_eq_true rfl) rfl ?_
  intro p e s m args below meth c hin0 C
  refine g_iload_n C dX5_isPlace_0 rfl 0 rfl ?_
  refine g_iconst (v := nI 0) C dX5_isPlace_1 (by decide) ?_
  refine g_iconst (v := nI 1) C dX5_isPlace_2 (by decide) ?_
  refine g_callS1 (wr := []) (w2 := []) C (c_X5_within l g x (nI 0) (nI 1)) (va_cwS 3 C.2.2.2.2.1 gX5_isPlace_X5_within rfl rfl rfl (by decide +kernel) ⟨Nat.le_of_ble_eq_true rfl, Nat.le_of_ble_eq_true rfl⟩) [] [] rfl rfl rfl rfl rfl (by decide) rfl rfl (Nat.le_of_ble_eq_true rfl) dX5_isPlace_3 ⟨Nat.le_of_ble_eq_true rfl, Nat.le_of_ble_eq_true rfl⟩ rfl ?_
  refine g_if_eq_b (tgt := 32) C dX5_isPlace_6 (by decide) (fun c6 => ?_) (fun c6 => ?_)
  · skip
    refine g_iconst (v := nI 0) C dX5_isPlace_32 (by decide) ?_
    refine g_st (st2 := [.int (bI false)]) rfl ?_
    refine g_zret C dX5_isPlace_33 (by decide) (by decide) ?_
    refine ⟨congrArg (fun b => some (Value.int (bI b))) ?_, rfl⟩
    first | (simp [Bool.and_true, c6, c15, c25]; done) | (simp [Bool.and_true, c6, c15]; done) | (simp [Bool.and_true, c6]; done)
  · skip
    refine g_iload_n C dX5_isPlace_9 rfl 1 rfl ?_
    refine g_iconst (v := nI 0) C dX5_isPlace_10 (by decide) ?_
    refine g_iconst (v := nI 3) C dX5_isPlace_11 (by decide) ?_
    refine g_callS1 (wr := []) (w2 := []) C (c_X5_within l g y (nI 0) (nI 3)) (va_cwS 3 C.2.2.2.2.1 gX5_isPlace_X5_within rfl rfl rfl (by decide +kernel) ⟨Nat.le_of_ble_eq_true rfl, Nat.le_of_ble_eq_true rfl⟩) [] [] rfl rfl rfl rfl rfl (by decide) rfl rfl (Nat.le_of_ble_eq_true rfl) dX5_isPlace_12 ⟨Nat.le_of_ble_eq_true rfl, Nat.le_of_ble_eq_true rfl⟩ rfl ?_
    refine g_if_eq_b (tgt := 32) C dX5_isPlace_15 (by decide) (fun c15 => ?_) (fun c15 => ?_)
    · skip
      refine g_iconst (v := nI 0) C dX5_isPlace_32 (by decide) ?_
      refine g_st (st2 := [.int (bI false)]) rfl ?_
      refine g_zret C dX5_isPlace_33 (by decide) (by decide) ?_
      refine ⟨congrArg (fun b => some (Value.int (bI b))) ?_, rfl⟩
      first | (simp [Bool.and_true, c6, c15, c25]; done) | (simp [Bool.and_true, c6, c15]; done) | (simp [Bool.and_true, c6]; done)
    · skip
      refine g_iload_n C dX5_isPlace_18 rfl 2 rfl ?_
      refine g_iconst (v := nI 1) C dX5_isPlace_19 (by decide) ?_
      refine g_bipush (v := nI 64) C dX5_isPlace_20 (by decide) ?_
      refine g_callS1 (wr := []) (w2 := []) C (c_X5_within l g z (nI 1) (nI 64)) (va_cwS 3 C.2.2.2.2.1 gX5_isPlace_X5_within rfl rfl rfl (by decide +kernel) ⟨Nat.le_of_ble_eq_true rfl, Nat.le_of_ble_eq_true rfl⟩) [] [] rfl rfl rfl rfl rfl (by decide) rfl rfl (Nat.le_of_ble_eq_true rfl) dX5_isPlace_22 ⟨Nat.le_of_ble_eq_true rfl, Nat.le_of_ble_eq_true rfl⟩ rfl ?_
      refine g_if_eq_b (tgt := 32) C dX5_isPlace_25 (by decide) (fun c25 => ?_) (fun c25 => ?_)
      · skip
        refine g_iconst (v := nI 0) C dX5_isPlace_32 (by decide) ?_
        refine g_st (st2 := [.int (bI false)]) rfl ?_
        refine g_zret C dX5_isPlace_33 (by decide) (by decide) ?_
        refine ⟨congrArg (fun b => some (Value.int (bI b))) ?_, rfl⟩
        first | (simp [Bool.and_true, c6, c15, c25]; done) | (simp [Bool.and_true, c6, c15]; done) | (simp [Bool.and_true, c6]; done)
      · skip
        refine g_iconst (v := nI 1) C dX5_isPlace_28 (by decide) ?_
        refine g_goto (tgt := 33) C dX5_isPlace_29 (by decide) ?_
        refine g_st (st2 := [.int (bI true)]) rfl ?_
        refine g_zret C dX5_isPlace_33 (by decide) (by decide) ?_
        refine ⟨congrArg (fun b => some (Value.int (bI b))) ?_, rfl⟩
        first | (simp [Bool.and_true, c6, c15, c25]; done) | (simp [Bool.and_true, c6, c15]; done) | (simp [Bool.and_true, c6]; done)
set_option maxHeartbeats 4000000 in
set_option maxRecDepth 100000 in
theorem c_X5_counts (l : Launch) (g : gE) (a : Nat → Nat) (th : Int32) (wk : Bool) (ro : Int32) (lo ne di : Nat) (ta : Bool) (ce fo bt : Nat) (hs : Nat → Bool) (n : Nat) (hn : n < 4) : Kt l g yX5_counts wsX5_counts 0 0 0 0 [.ref (a 0), .int (nI n)] [(a 0, oM a th (bI wk) ro (nI lo) (nI ne) (nI di) (bI ta) (nI ce) (nI fo) (nI bt)), (a 2, gZ g 8 hs)] (kR (some (.int (bI (hs n && hs (4 + n))))) [(a 0, oM a th (bI wk) ro (nI lo) (nI ne) (nI di) (bI ta) (nI ce) (nI fo) (nI bt)), (a 2, gZ g 8 hs)]) := by
  have hinX5 : ∀ w ∈ wsX50, w ∈ wsX5_counts := by
    intro w h
    unfold wsX5_counts
    simp only [List.mem_cons, List.mem_append]
    simp only [h, or_true, true_or]
  refine g_enter (cc := cX5_counts) (maxL := 2) (ret := (some .boolean)) (own := RX5) (L := [(0, .ref (a 0)), (1, .int (nI n))]) (by decide) rfl rfl (Nat.le_of_ble_eq_true rfl) rfl ?_
  intro p e s m args below meth c hin0 C
  refine g_aload_n C dX5_counts_0 rfl 0 rfl ?_
  refine g_get C hinX5 0 rfl rfl 1 (by decide) (by decide +kernel) rfl rfl dX5_counts_1 ?_
  refine g_iload_n C dX5_counts_4 rfl 1 rfl ?_
  refine g_zald C 1 rfl (by omega) (by decide) dX5_counts_5 ?_
  refine g_if_eq_b (tgt := 24) C dX5_counts_6 (by decide) (fun c6 => ?_) (fun c6 => ?_)
  · skip
    refine g_iconst (v := nI 0) C dX5_counts_24 (by decide) ?_
    refine g_st (st2 := [.int (bI false)]) rfl ?_
    refine g_zret C dX5_counts_25 (by decide) (by decide) ?_
    refine ⟨congrArg (fun b => some (Value.int (bI b))) ?_, rfl⟩
    first | (simp [Bool.and_true, c6, c17]; done) | (simp [Bool.and_true, c6]; done)
  · skip
    refine g_aload_n C dX5_counts_9 rfl 0 rfl ?_
    refine g_get C hinX5 0 rfl rfl 1 (by decide) (by decide +kernel) rfl rfl dX5_counts_10 ?_
    refine g_iconst (v := nI 4) C dX5_counts_13 (by decide) ?_
    refine g_iload_n C dX5_counts_14 rfl 1 rfl ?_
    refine g_iadd_n C dX5_counts_15 ?_
    refine g_zald C 1 rfl (by omega) (by decide) dX5_counts_16 ?_
    refine g_if_eq_b (tgt := 24) C dX5_counts_17 (by decide) (fun c17 => ?_) (fun c17 => ?_)
    · skip
      refine g_iconst (v := nI 0) C dX5_counts_24 (by decide) ?_
      refine g_st (st2 := [.int (bI false)]) rfl ?_
      refine g_zret C dX5_counts_25 (by decide) (by decide) ?_
      refine ⟨congrArg (fun b => some (Value.int (bI b))) ?_, rfl⟩
      first | (simp [Bool.and_true, c6, c17]; done) | (simp [Bool.and_true, c6]; done)
    · skip
      refine g_iconst (v := nI 1) C dX5_counts_20 (by decide) ?_
      refine g_goto (tgt := 25) C dX5_counts_21 (by decide) ?_
      refine g_st (st2 := [.int (bI true)]) rfl ?_
      refine g_zret C dX5_counts_25 (by decide) (by decide) ?_
      refine ⟨congrArg (fun b => some (Value.int (bI b))) ?_, rfl⟩
      first | (simp [Bool.and_true, c6, c17]; done) | (simp [Bool.and_true, c6]; done)
set_option maxHeartbeats 4000000 in
set_option maxRecDepth 100000 in
theorem c_X5_put (l : Launch) (g : gE) (a : Nat → Nat) (th : Int32) (wk : Bool) (ro : Int32) (lo ne di : Nat) (ta : Bool) (ce fo bt : Nat) (tx : Nat → Int32) (x : Int32) (hb : bt < 128) : Kt l g yX5_put wsX5_put 0 0 0 0 [.ref (a 0), .int x] [(a 0, oM a th (bI wk) ro (nI lo) (nI ne) (nI di) (bI ta) (nI ce) (nI fo) (nI bt)), (a 30, gI g 128 tx)] (kR none [(a 0, oM a th (bI wk) ro (nI lo) (nI ne) (nI di) (bI ta) (nI ce) (nI fo) (nI (bt + 1))), (a 30, gI g 128 (va_up tx bt (x &&& nI 255)))]) := by
  have hinX5 : ∀ w ∈ wsX50, w ∈ wsX5_put := by
    intro w h
    unfold wsX5_put
    simp only [List.mem_cons, List.mem_append]
    simp only [h, or_true, true_or]
  refine g_enter (cc := cX5_put) (maxL := 2) (ret := none) (own := RX5) (L := [(0, .ref (a 0)), (1, .int x)]) (by decide) rfl rfl (Nat.le_of_ble_eq_true rfl) rfl ?_
  intro p e s m args below meth c hin0 C
  refine g_aload_n C dX5_put_0 rfl 0 rfl ?_
  refine g_get C hinX5 0 rfl rfl 29 (by decide) (by decide +kernel) rfl rfl dX5_put_1 ?_
  refine g_aload_n C dX5_put_4 rfl 0 rfl ?_
  refine g_get C hinX5 0 rfl rfl 28 (by decide) (by decide +kernel) rfl rfl dX5_put_5 ?_
  refine g_iload_n C dX5_put_8 rfl 1 rfl ?_
  refine g_sipush (v := nI 255) C dX5_put_9 (by decide) ?_
  refine g_iand C dX5_put_12 ?_
  refine g_iast (w2 := [(a 0, oM a th (bI wk) ro (nI lo) (nI ne) (nI di) (bI ta) (nI ce) (nI fo) (nI bt)), (a 30, gI g 128 (va_up tx bt (x &&& (nI 255))))]) C 1 rfl (by omega) (by decide) rfl dX5_put_13 ?_
  refine g_aload_n C dX5_put_14 rfl 0 rfl ?_
  refine g_dup C dX5_put_15 rfl ?_
  refine g_get C hinX5 0 rfl rfl 28 (by decide) (by decide +kernel) rfl rfl dX5_put_16 ?_
  refine g_iconst (v := nI 1) C dX5_put_19 (by decide) ?_
  refine g_iadd_n C dX5_put_20 ?_
  refine g_put (ty := .int) (w2 := [(a 0, oM a th (bI wk) ro (nI lo) (nI ne) (nI di) (bI ta) (nI ce) (nI fo) (nI (bt + 1))), (a 30, gI g 128 (va_up tx bt (x &&& (nI 255))))]) C hinX5 0 rfl rfl 28 (by decide) (by decide +kernel) rfl tyX5 tyX5_ok nmX5 rfl (by decide +kernel) rfl rfl (Nat.le_of_ble_eq_true rfl) rfl dX5_put_21 ?_
  refine g_vret C dX5_put_24 (by decide) (by decide) ?_
  exact ⟨rfl, rfl⟩
set_option maxHeartbeats 4000000 in
set_option maxRecDepth 100000 in
theorem c_X5_putRow (l : Launch) (g : gE) (a : Nat → Nat) (th : Int32) (wk : Bool) (ro : Int32) (lo ne di : Nat) (ta : Bool) (ce fo bt : Nat) (tx : Nat → Int32) (k : Nat) (v : Int64) (hb : bt + 10 ≤ 128) (hk : k < 256) : Kt l g yX5_putRow wsX5_putRow 1 21 0 0 [.ref (a 0), .int (nI k), .long v] [(a 0, oM a th (bI wk) ro (nI lo) (nI ne) (nI di) (bI ta) (nI ce) (nI fo) (nI bt)), (a 30, gI g 128 tx)] (kR none [(a 0, oM a th (bI wk) ro (nI lo) (nI ne) (nI di) (bI ta) (nI ce) (nI fo) (nI (bt + 1 + 1 + 8))), (a 30, gI g 128 (rowT v k bt tx 8))]) := by
  refine g_enter (cc := cX5_putRow) (maxL := 5) (ret := none) (own := RX5) (L := [(0, .ref (a 0)), (1, .int (nI k)), (2, .long v)]) (by decide) rfl rfl (Nat.le_of_ble_eq_true rfl) rfl ?_
  intro p e s m args below meth c hin0 C
  refine g_aload_n C dX5_putRow_0 rfl 0 rfl ?_
  refine g_iload_n C dX5_putRow_1 rfl 1 rfl ?_
  refine g_bipush (v := nI 64) C dX5_putRow_2 (by decide) ?_
  refine g_idiv_n C dX5_putRow_4 (by omega) (by omega) (by omega) ?_
  refine g_callV0 (wr := []) (w2 := [(a 0, oM a th (bI wk) ro (nI lo) (nI ne) (nI di) (bI ta) (nI ce) (nI fo) (nI (bt + 1))), (a 30, gI g 128 (va_up tx bt ((nI (k / 64)) &&& nI 255)))]) C (c_X5_put l g a th wk ro lo ne di ta ce fo bt tx (nI (k / 64)) (by omega)) (cwV 1 C.2.2.2.2.1 gX5_putRow_X5_put rfl rfl rfl (by decide +kernel) ⟨Nat.le_of_ble_eq_true rfl, Nat.le_of_ble_eq_true rfl⟩) 0 rfl rfl rfl [0, 1] [] rfl rfl rfl rfl rfl (by decide) rfl rfl (Nat.le_of_ble_eq_true rfl) dX5_putRow_5 ⟨Nat.le_of_ble_eq_true rfl, Nat.le_of_ble_eq_true rfl⟩ rfl ?_
  refine g_aload_n C dX5_putRow_8 rfl 0 rfl ?_
  refine g_iload_n C dX5_putRow_9 rfl 1 rfl ?_
  refine g_bipush (v := nI 64) C dX5_putRow_10 (by decide) ?_
  refine g_irem_n C dX5_putRow_12 (by omega) (by omega) (by omega) ?_
  refine g_iconst (v := nI 1) C dX5_putRow_13 (by decide) ?_
  refine g_iadd_n C dX5_putRow_14 ?_
  refine g_callV0 (wr := []) (w2 := [(a 0, oM a th (bI wk) ro (nI lo) (nI ne) (nI di) (bI ta) (nI ce) (nI fo) (nI ((bt + 1) + 1))), (a 30, gI g 128 (va_up (va_up tx bt ((nI (k / 64)) &&& nI 255)) (bt + 1) ((nI ((k % 64) + 1)) &&& nI 255)))]) C (c_X5_put l g a th wk ro lo ne di ta ce fo (bt + 1) (va_up tx bt ((nI (k / 64)) &&& nI 255)) (nI ((k % 64) + 1)) (by omega)) (cwV 1 C.2.2.2.2.1 gX5_putRow_X5_put rfl rfl rfl (by decide +kernel) ⟨Nat.le_of_ble_eq_true rfl, Nat.le_of_ble_eq_true rfl⟩) 0 rfl rfl rfl [0, 1] [] rfl rfl rfl rfl rfl (by decide) rfl rfl (Nat.le_of_ble_eq_true rfl) dX5_putRow_15 ⟨Nat.le_of_ble_eq_true rfl, Nat.le_of_ble_eq_true rfl⟩ rfl ?_
  refine g_bipush (v := nI 56) C dX5_putRow_18 (by decide) ?_
  refine g_istore (L' := [(4, .int (nI 56)), (0, .ref (a 0)), (1, .int (nI k)), (2, .long v)]) C dX5_putRow_20 (by decide) rfl ?_
  refine g_up 8 0 (fun _ => True) (fun j => [(4, .int (nI (64 - 8 * j) - 8)), (0, .ref (a 0)), (1, .int (nI k)), (2, .long v)]) (fun j => [(a 0, oM a th (bI wk) ro (nI lo) (nI ne) (nI di) (bI ta) (nI ce) (nI fo) (nI (bt + 1 + 1 + j))), (a 30, gI g 128 (rowT v k bt tx j))]) (by omega) (trivial) ?_ ?_
  · intro hPj
    try dsimp only
    rw [show nI (64 - 8 * 8) - 8 = (-8 : Int32) by decide]
    refine g_iload C dX5_putRow_22 0 rfl ?_
    refine g_if_lt (tgt := 42) C dX5_putRow_24 (by decide) (fun c24 => ?_) (fun c24 => ?_)
    · skip
      refine g_vret C dX5_putRow_42 (by decide) (by decide) ?_
      exact ⟨rfl, rfl⟩
    · skip
      exact absurd (by decide) c24
  · intro j hlj huj hPj ihj
    try dsimp only at ihj ⊢
    rw [nI_dec8 huj]
    refine g_iload C dX5_putRow_22 0 rfl ?_
    refine g_if_lt_n (tgt := 42) C dX5_putRow_24 (by decide) (by omega) ?_
    refine g_aload_n C dX5_putRow_27 rfl 1 rfl ?_
    refine g_lload_n C dX5_putRow_28 rfl 3 rfl ?_
    refine g_iload C dX5_putRow_29 0 rfl ?_
    refine g_lshr C dX5_putRow_31 ?_
    refine g_l2i C dX5_putRow_32 ?_
    refine g_callV0 (wr := []) (w2 := [(a 0, oM a th (bI wk) ro (nI lo) (nI ne) (nI di) (bI ta) (nI ce) (nI fo) (nI ((bt + 1 + 1 + j) + 1))), (a 30, gI g 128 (va_up (rowT v k bt tx j) (bt + 1 + 1 + j) ((Int64.toInt32 (v >>> (Int32.toInt64 (nI (56 - 8 * j)) &&& 63))) &&& nI 255)))]) C (c_X5_put l g a th wk ro lo ne di ta ce fo (bt + 1 + 1 + j) (rowT v k bt tx j) (Int64.toInt32 (v >>> (Int32.toInt64 (nI (56 - 8 * j)) &&& 63))) (by omega)) (cwV 1 C.2.2.2.2.1 gX5_putRow_X5_put rfl rfl rfl (by decide +kernel) ⟨Nat.le_of_ble_eq_true rfl, Nat.le_of_ble_eq_true rfl⟩) 0 rfl rfl rfl [0, 1] [] rfl rfl rfl rfl rfl (by decide) rfl rfl (Nat.le_of_ble_eq_true rfl) dX5_putRow_33 ⟨Nat.le_of_ble_eq_true rfl, Nat.le_of_ble_eq_true rfl⟩ rfl ?_
    refine g_iinc (v := (nI (56 - 8 * j)) - 8) (L' := [(4, .int ((nI (56 - 8 * j)) - 8)), (0, .ref (a 0)), (1, .int (nI k)), (2, .long v)]) C dX5_putRow_36 0 rfl (by rw [Int32.sub_eq_add_neg]; rfl) (by decide) rfl ?_
    refine g_goto (tgt := 22) C dX5_putRow_39 (by decide) ?_
    rw [show 64 - 8 * (j + 1) = 56 - 8 * j by omega] at ihj
    exact ihj (trivial)
set_option maxHeartbeats 4000000 in
set_option maxRecDepth 100000 in
theorem c_X5_left (l : Launch) (g : gE) (x : Int32) (n : Nat) (hn : n ≤ 32) : Kt l g yX5_left wsX5_left 0 0 0 0 [.int x, .int (nI n)] [] (kR (some (.int (mL x n))) []) := by
  refine g_enter (cc := cX5_left) (maxL := 2) (ret := (some .int)) (own := RX5) (L := [(0, .int x), (1, .int (nI n))]) (by decide) rfl rfl (Nat.le_of_ble_eq_true rfl) rfl ?_
  intro p e s m args below meth c hin0 C
  refine g_iload_n C dX5_left_0 rfl 0 rfl ?_
  refine g_iload_n C dX5_left_1 rfl 1 rfl ?_
  refine g_ishl C dX5_left_2 ?_
  refine g_iload_n C dX5_left_3 rfl 0 rfl ?_
  refine g_bipush (v := nI 32) C dX5_left_4 (by decide) ?_
  refine g_iload_n C dX5_left_6 rfl 1 rfl ?_
  refine g_isub_n C dX5_left_7 (by omega) ?_
  refine g_iushr C dX5_left_8 ?_
  refine g_ior C dX5_left_9 ?_
  refine g_iret C dX5_left_10 (by decide) (by decide) ?_
  exact ⟨rfl, rfl⟩
set_option maxHeartbeats 4000000 in
set_option maxRecDepth 100000 in
theorem c_X5_right (l : Launch) (g : gE) (x : Int32) (n : Nat) (hn : n ≤ 32) : Kt l g yX5_right wsX5_right 0 0 0 0 [.int x, .int (nI n)] [] (kR (some (.int (mR x n))) []) := by
  refine g_enter (cc := cX5_right) (maxL := 2) (ret := (some .int)) (own := RX5) (L := [(0, .int x), (1, .int (nI n))]) (by decide) rfl rfl (Nat.le_of_ble_eq_true rfl) rfl ?_
  intro p e s m args below meth c hin0 C
  refine g_iload_n C dX5_right_0 rfl 0 rfl ?_
  refine g_iload_n C dX5_right_1 rfl 1 rfl ?_
  refine g_iushr C dX5_right_2 ?_
  refine g_iload_n C dX5_right_3 rfl 0 rfl ?_
  refine g_bipush (v := nI 32) C dX5_right_4 (by decide) ?_
  refine g_iload_n C dX5_right_6 rfl 1 rfl ?_
  refine g_isub_n C dX5_right_7 (by omega) ?_
  refine g_ishl C dX5_right_8 ?_
  refine g_ior C dX5_right_9 ?_
  refine g_iret C dX5_right_10 (by decide) (by decide) ?_
  exact ⟨rfl, rfl⟩
set_option maxHeartbeats 4000000 in
set_option maxRecDepth 100000 in
theorem c_X5_fold (l : Launch) (g : gE) (a : Nat → Nat) (th : Int32) (wk : Bool) (ro : Int32) (lo ne di : Nat) (ta : Bool) (ce fo bt : Nat) (tx : Nat → Int32) (hb : bt ≤ 128) : Kt l g yX5_fold wsX5_fold 1 21 0 0 [.ref (a 0)] [(a 0, oM a th (bI wk) ro (nI lo) (nI ne) (nI di) (bI ta) (nI ce) (nI fo) (nI bt)), (a 30, gI g 128 tx)] (kR (some (.int (fldT tx bt))) [(a 0, oM a th (bI wk) ro (nI lo) (nI ne) (nI di) (bI ta) (nI ce) (nI fo) (nI bt)), (a 30, gI g 128 tx)]) := by
  have hinX5 : ∀ w ∈ wsX50, w ∈ wsX5_fold := by
    intro w h
    unfold wsX5_fold
    simp only [List.mem_cons, List.mem_append]
    simp only [h, or_true, true_or]
  refine g_enter (cc := cX5_fold) (maxL := 3) (ret := (some .int)) (own := RX5) (L := [(0, .ref (a 0))]) (by decide) rfl rfl (Nat.le_of_ble_eq_true rfl) rfl ?_
  intro p e s m args below meth c hin0 C
  refine g_iconst (v := nI 0) C dX5_fold_0 (by decide) ?_
  refine g_istore_n (L' := [(1, .int (nI 0)), (0, .ref (a 0))]) C dX5_fold_1 rfl (by decide) rfl ?_
  refine g_iconst (v := nI 0) C dX5_fold_2 (by decide) ?_
  refine g_istore_n (L' := [(2, .int (nI 0)), (1, .int (nI 0)), (0, .ref (a 0))]) C dX5_fold_3 rfl (by decide) rfl ?_
  refine g_up bt 0 (fun _ => True) (fun j => [(2, .int (nI j)), (1, .int (fldT tx j)), (0, .ref (a 0))]) (fun j => [(a 0, oM a th (bI wk) ro (nI lo) (nI ne) (nI di) (bI ta) (nI ce) (nI fo) (nI bt)), (a 30, gI g 128 tx)]) (by omega) (trivial) ?_ ?_
  · intro hPj
    try dsimp only
    refine g_iload_n C dX5_fold_4 rfl 0 rfl ?_
    refine g_aload_n C dX5_fold_5 rfl 2 rfl ?_
    refine g_get C hinX5 0 rfl rfl 28 (by decide) (by decide +kernel) rfl rfl dX5_fold_6 ?_
    refine g_icmp_ge_n (tgt := 35) C dX5_fold_9 (by decide) (by omega) (by omega) (fun c9 => ?_) (fun c9 => ?_)
    · skip
      refine g_iload_n C dX5_fold_35 rfl 1 rfl ?_
      refine g_iret C dX5_fold_36 (by decide) (by decide) ?_
      exact ⟨rfl, rfl⟩
    · skip
      exfalso; omega
  · intro j hlj huj hPj ihj
    try dsimp only at ihj ⊢
    refine g_iload_n C dX5_fold_4 rfl 0 rfl ?_
    refine g_aload_n C dX5_fold_5 rfl 2 rfl ?_
    refine g_get C hinX5 0 rfl rfl 28 (by decide) (by decide +kernel) rfl rfl dX5_fold_6 ?_
    refine g_icmp_ge_n (tgt := 35) C dX5_fold_9 (by decide) (by omega) (by omega) (fun c9 => ?_) (fun c9 => ?_)
    · skip
      exfalso; omega
    · skip
      refine g_iload_n C dX5_fold_12 rfl 1 rfl ?_
      refine g_aload_n C dX5_fold_13 rfl 2 rfl ?_
      refine g_get C hinX5 0 rfl rfl 29 (by decide) (by decide +kernel) rfl rfl dX5_fold_14 ?_
      refine g_iload_n C dX5_fold_17 rfl 0 rfl ?_
      refine g_iald C 1 rfl (by omega) (by decide) dX5_fold_18 ?_
      refine g_ixor C dX5_fold_19 ?_
      refine g_bipush (v := nI 7) C dX5_fold_20 (by decide) ?_
      refine g_callS1 (wr := [(a 0, oM a th (bI wk) ro (nI lo) (nI ne) (nI di) (bI ta) (nI ce) (nI fo) (nI bt)), (a 30, gI g 128 tx)]) (w2 := [(a 0, oM a th (bI wk) ro (nI lo) (nI ne) (nI di) (bI ta) (nI ce) (nI fo) (nI bt)), (a 30, gI g 128 tx)]) C (c_X5_left l g ((fldT tx j) ^^^ (tx j)) 7 (by omega)) (va_cwS 2 C.2.2.2.2.1 gX5_fold_X5_left rfl rfl rfl (by decide +kernel) ⟨Nat.le_of_ble_eq_true rfl, Nat.le_of_ble_eq_true rfl⟩) [] [0, 1] rfl rfl rfl rfl rfl (by decide) rfl rfl (Nat.le_of_ble_eq_true rfl) dX5_fold_22 ⟨Nat.le_of_ble_eq_true rfl, Nat.le_of_ble_eq_true rfl⟩ rfl ?_
      refine g_ldc (v := 668265263) C (by decide +kernel) dX5_fold_25 ?_
      refine g_imul C dX5_fold_27 ?_
      refine g_istore_n (L' := [(1, .int ((mL ((fldT tx j) ^^^ (tx j)) 7) * (668265263 : Int32))), (2, .int (nI j)), (0, .ref (a 0))]) C dX5_fold_28 rfl (by decide) rfl ?_
      refine g_iinc_n (d := 1) (L' := [(2, .int (nI (j + 1))), (1, .int ((mL ((fldT tx j) ^^^ (tx j)) 7) * (668265263 : Int32))), (0, .ref (a 0))]) C dX5_fold_29 1 rfl (by decide) (by decide) rfl ?_
      refine g_goto (tgt := 4) C dX5_fold_32 (by decide) ?_
      exact ihj (trivial)
set_option maxHeartbeats 4000000 in
set_option maxRecDepth 100000 in
theorem c_X5_block (l : Launch) (g : gE) (a : Nat → Nat) (th : Int32) (wk : Bool) (ro : Int32) (lo ne di : Nat) (ta : Bool) (ce fo bt : Nat) (rd : Nat → Int32) (tx : Nat → Int32) (wo : Nat → Int32) (ch : Nat → Int32) (wr : Nat → Int32) (f : Nat) (hf : f + 64 ≤ 128) : Kt l g yX5_block wsX5_block 1 21 0 0 [.ref (a 0), .int (nI f)] [(a 0, oM a th (bI wk) ro (nI lo) (nI ne) (nI di) (bI ta) (nI ce) (nI fo) (nI bt)), (a 10, gI g 64 rd), (a 30, gI g 128 tx), (a 31, gI g 64 wo), (a 32, gI g 8 ch), (a 33, gI g 8 wr)] (kR none [(a 0, oM a th (bI wk) ro (nI lo) (nI ne) (nI di) (bI ta) (nI ce) (nI fo) (nI bt)), (a 10, gI g 64 rd), (a 30, gI g 128 tx), (a 31, gI g 64 ((bkB tx rd f (ch, wo, wr)).2.1)), (a 32, gI g 8 ((bkB tx rd f (ch, wo, wr)).1)), (a 33, gI g 8 ((bkB tx rd f (ch, wo, wr)).2.2))]) := by
  have hinX5 : ∀ w ∈ wsX50, w ∈ wsX5_block := by
    intro w h
    unfold wsX5_block
    simp only [List.mem_cons, List.mem_append]
    simp only [h, or_true, true_or]
  refine g_enter (cc := cX5_block) (maxL := 8) (ret := none) (own := RX5) (L := [(0, .ref (a 0)), (1, .int (nI f))]) (by decide) rfl rfl (Nat.le_of_ble_eq_true rfl) rfl ?_
  intro p e s m args below meth c hin0 C
  refine g_iconst (v := nI 0) C dX5_block_0 (by decide) ?_
  refine g_istore_n (L' := [(2, .int (nI 0)), (0, .ref (a 0)), (1, .int (nI f))]) C dX5_block_1 rfl (by decide) rfl ?_
  refine g_up 16 0 (fun _ => True) (fun t => [(2, .int (nI t)), (0, .ref (a 0)), (1, .int (nI f))]) (fun t => [(a 0, oM a th (bI wk) ro (nI lo) (nI ne) (nI di) (bI ta) (nI ce) (nI fo) (nI bt)), (a 10, gI g 64 rd), (a 30, gI g 128 tx), (a 31, gI g 64 (wdI tx f wo t)), (a 32, gI g 8 ch), (a 33, gI g 8 wr)]) (by omega) (trivial) ?_ ?_
  · intro hPt
    try dsimp only
    refine g_iload_n C dX5_block_2 rfl 0 rfl ?_
    refine g_bipush (v := nI 16) C dX5_block_3 (by decide) ?_
    refine g_icmp_ge_n (tgt := 78) C dX5_block_5 (by decide) (by omega) (by omega) (fun c5 => ?_) (fun c5 => ?_)
    · skip
      refine g_bipush (v := nI 16) C dX5_block_78 (by decide) ?_
      refine g_istore_n (L' := [(2, .int (nI 16)), (0, .ref (a 0)), (1, .int (nI f))]) C dX5_block_80 rfl (by decide) rfl ?_
      refine g_L (L2 := [(0, .ref (a 0)), (1, .int (nI f)), (2, .int (nI 16))]) [1, 2, 0] rfl ?_
      refine g_up 48 0 (fun _ => True) (fun t => [(0, .ref (a 0)), (1, .int (nI f)), (2, .int (nI (16 + t)))]) (fun t => [(a 0, oM a th (bI wk) ro (nI lo) (nI ne) (nI di) (bI ta) (nI ce) (nI fo) (nI bt)), (a 10, gI g 64 rd), (a 30, gI g 128 tx), (a 31, gI g 64 (it sprM (wdI tx f wo 16) t)), (a 32, gI g 8 ch), (a 33, gI g 8 wr)]) (by omega) (trivial) ?_ ?_
      · intro hPt
        try dsimp only
        refine g_iload_n C dX5_block_81 rfl 2 rfl ?_
        refine g_bipush (v := nI 64) C dX5_block_82 (by decide) ?_
        refine g_icmp_ge_n (tgt := 186) C dX5_block_84 (by decide) (by omega) (by omega) (fun c84 => ?_) (fun c84 => ?_)
        · skip
          refine g_iconst (v := nI 0) C dX5_block_186 (by decide) ?_
          refine g_istore_n (L' := [(2, .int (nI 0)), (0, .ref (a 0)), (1, .int (nI f))]) C dX5_block_187 rfl (by decide) rfl ?_
          refine g_L (L2 := [(0, .ref (a 0)), (1, .int (nI f)), (2, .int (nI 0))]) [1, 2, 0] rfl ?_
          refine g_up 8 0 (fun _ => True) (fun t => [(0, .ref (a 0)), (1, .int (nI f)), (2, .int (nI t))]) (fun t => [(a 0, oM a th (bI wk) ro (nI lo) (nI ne) (nI di) (bI ta) (nI ce) (nI fo) (nI bt)), (a 10, gI g 64 rd), (a 30, gI g 128 tx), (a 31, gI g 64 (it sprM (wdI tx f wo 16) 48)), (a 32, gI g 8 ch), (a 33, gI g 8 (cpW ch wr t))]) (by omega) (trivial) ?_ ?_
          · intro hPt
            try dsimp only
            refine g_iload_n C dX5_block_188 rfl 2 rfl ?_
            refine g_bipush (v := nI 8) C dX5_block_189 (by decide) ?_
            refine g_icmp_ge_n (tgt := 212) C dX5_block_191 (by decide) (by omega) (by omega) (fun c191 => ?_) (fun c191 => ?_)
            · skip
              refine g_iconst (v := nI 0) C dX5_block_212 (by decide) ?_
              refine g_istore_n (L' := [(2, .int (nI 0)), (0, .ref (a 0)), (1, .int (nI f))]) C dX5_block_213 rfl (by decide) rfl ?_
              refine g_L (L2 := [(0, .ref (a 0)), (1, .int (nI f)), (2, .int (nI 0))]) [1, 2, 0] rfl ?_
              refine g_up 64 0 (fun _ => True) (fun t => [(0, .ref (a 0)), (1, .int (nI f)), (2, .int (nI t))]) (fun t => [(a 0, oM a th (bI wk) ro (nI lo) (nI ne) (nI di) (bI ta) (nI ce) (nI fo) (nI bt)), (a 10, gI g 64 rd), (a 30, gI g 128 tx), (a 31, gI g 64 (it sprM (wdI tx f wo 16) 48)), (a 32, gI g 8 ch), (a 33, gI g 8 (it (mRd rd (bkW tx f wo)) (cpW ch wr 8) t))]) (by omega) (trivial) ?_ ?_
              · intro hPt
                try dsimp only
                refine g_iload_n C dX5_block_214 rfl 2 rfl ?_
                refine g_bipush (v := nI 64) C dX5_block_215 (by decide) ?_
                refine g_icmp_ge_n (tgt := 417) C dX5_block_217 (by decide) (by omega) (by omega) (fun c217 => ?_) (fun c217 => ?_)
                · skip
                  refine g_iconst (v := nI 0) C dX5_block_417 (by decide) ?_
                  refine g_istore_n (L' := [(2, .int (nI 0)), (0, .ref (a 0)), (1, .int (nI f))]) C dX5_block_418 rfl (by decide) rfl ?_
                  refine g_L (L2 := [(0, .ref (a 0)), (1, .int (nI f)), (2, .int (nI 0))]) [1, 2, 0] rfl ?_
                  refine g_up 8 0 (fun _ => True) (fun t => [(0, .ref (a 0)), (1, .int (nI f)), (2, .int (nI t))]) (fun t => [(a 0, oM a th (bI wk) ro (nI lo) (nI ne) (nI di) (bI ta) (nI ce) (nI fo) (nI bt)), (a 10, gI g 64 rd), (a 30, gI g 128 tx), (a 31, gI g 64 (it sprM (wdI tx f wo 16) 48)), (a 32, gI g 8 (it (fun k q => va_up q k (q k + (it (mRd rd (bkW tx f wo)) (cpW ch wr 8) 64) k)) ch t)), (a 33, gI g 8 (it (mRd rd (bkW tx f wo)) (cpW ch wr 8) 64))]) (by omega) (trivial) ?_ ?_
                  · intro hPt
                    try dsimp only
                    refine g_iload_n C dX5_block_419 rfl 2 rfl ?_
                    refine g_bipush (v := nI 8) C dX5_block_420 (by decide) ?_
                    refine g_icmp_ge_n (tgt := 446) C dX5_block_422 (by decide) (by omega) (by omega) (fun c422 => ?_) (fun c422 => ?_)
                    · skip
                      refine g_vret C dX5_block_446 (by decide) (by decide) ?_
                      exact ⟨rfl, rfl⟩
                    · skip
                      exfalso; omega
                  · intro t hlt hut hPt iht
                    try dsimp only at iht ⊢
                    refine g_iload_n C dX5_block_419 rfl 2 rfl ?_
                    refine g_bipush (v := nI 8) C dX5_block_420 (by decide) ?_
                    refine g_icmp_ge_n (tgt := 446) C dX5_block_422 (by decide) (by omega) (by omega) (fun c422 => ?_) (fun c422 => ?_)
                    · skip
                      exfalso; omega
                    · skip
                      refine g_aload_n C dX5_block_425 rfl 0 rfl ?_
                      refine g_get C hinX5 0 rfl rfl 31 (by decide) (by decide +kernel) rfl rfl dX5_block_426 ?_
                      refine g_iload_n C dX5_block_429 rfl 2 rfl ?_
                      refine g_dup2 C dX5_block_430 rfl rfl ?_
                      refine g_iald C 4 rfl (by omega) (by decide) dX5_block_431 ?_
                      refine g_aload_n C dX5_block_432 rfl 0 rfl ?_
                      refine g_get C hinX5 0 rfl rfl 32 (by decide) (by decide +kernel) rfl rfl dX5_block_433 ?_
                      refine g_iload_n C dX5_block_436 rfl 2 rfl ?_
                      refine g_iald C 5 rfl (by omega) (by decide) dX5_block_437 ?_
                      refine g_iadd C dX5_block_438 ?_
                      refine g_iast (w2 := [(a 0, oM a th (bI wk) ro (nI lo) (nI ne) (nI di) (bI ta) (nI ce) (nI fo) (nI bt)), (a 10, gI g 64 rd), (a 30, gI g 128 tx), (a 31, gI g 64 (it sprM (wdI tx f wo 16) 48)), (a 32, gI g 8 (va_up (it (fun k q => va_up q k (q k + (it (mRd rd (bkW tx f wo)) (cpW ch wr 8) 64) k)) ch t) t (((it (fun k q => va_up q k (q k + (it (mRd rd (bkW tx f wo)) (cpW ch wr 8) 64) k)) ch t) t) + ((it (mRd rd (bkW tx f wo)) (cpW ch wr 8) 64) t)))), (a 33, gI g 8 (it (mRd rd (bkW tx f wo)) (cpW ch wr 8) 64))]) C 4 rfl (by omega) (by decide) rfl dX5_block_439 ?_
                      refine g_iinc_n (d := 1) (L' := [(2, .int (nI (t + 1))), (0, .ref (a 0)), (1, .int (nI f))]) C dX5_block_440 2 rfl (by decide) (by decide) rfl ?_
                      refine g_goto (tgt := 419) C dX5_block_443 (by decide) ?_
                      refine g_L (L2 := [(0, .ref (a 0)), (1, .int (nI f)), (2, .int (nI (t + 1)))]) [1, 2, 0] rfl ?_
                      exact iht (trivial)
                · skip
                  exfalso; omega
              · intro t hlt hut hPt iht
                try dsimp only at iht ⊢
                refine g_iload_n C dX5_block_214 rfl 2 rfl ?_
                refine g_bipush (v := nI 64) C dX5_block_215 (by decide) ?_
                refine g_icmp_ge_n (tgt := 417) C dX5_block_217 (by decide) (by omega) (by omega) (fun c217 => ?_) (fun c217 => ?_)
                · skip
                  exfalso; omega
                · skip
                  refine g_aload_n C dX5_block_220 rfl 0 rfl ?_
                  refine g_get C hinX5 0 rfl rfl 32 (by decide) (by decide +kernel) rfl rfl dX5_block_221 ?_
                  refine g_iconst (v := nI 0) C dX5_block_224 (by decide) ?_
                  refine g_iald C 5 rfl (by omega) (by decide) dX5_block_225 ?_
                  refine g_istore_n (L' := [(3, .int ((it (mRd rd (bkW tx f wo)) (cpW ch wr 8) t) 0)), (0, .ref (a 0)), (1, .int (nI f)), (2, .int (nI t))]) C dX5_block_226 rfl (by decide) rfl ?_
                  refine g_aload_n C dX5_block_227 rfl 1 rfl ?_
                  refine g_get C hinX5 0 rfl rfl 32 (by decide) (by decide +kernel) rfl rfl dX5_block_228 ?_
                  refine g_iconst (v := nI 4) C dX5_block_231 (by decide) ?_
                  refine g_iald C 5 rfl (by omega) (by decide) dX5_block_232 ?_
                  refine g_istore (L' := [(4, .int ((it (mRd rd (bkW tx f wo)) (cpW ch wr 8) t) 4)), (3, .int ((it (mRd rd (bkW tx f wo)) (cpW ch wr 8) t) 0)), (0, .ref (a 0)), (1, .int (nI f)), (2, .int (nI t))]) C dX5_block_233 (by decide) rfl ?_
                  refine g_aload_n C dX5_block_235 rfl 2 rfl ?_
                  refine g_get C hinX5 0 rfl rfl 32 (by decide) (by decide +kernel) rfl rfl dX5_block_236 ?_
                  refine g_bipush (v := nI 7) C dX5_block_239 (by decide) ?_
                  refine g_iald C 5 rfl (by omega) (by decide) dX5_block_241 ?_
                  refine g_iload C dX5_block_242 0 rfl ?_
                  refine g_bipush (v := nI 6) C dX5_block_244 (by decide) ?_
                  refine g_callS1 (wr := [(a 0, oM a th (bI wk) ro (nI lo) (nI ne) (nI di) (bI ta) (nI ce) (nI fo) (nI bt)), (a 10, gI g 64 rd), (a 30, gI g 128 tx), (a 31, gI g 64 (it sprM (wdI tx f wo 16) 48)), (a 32, gI g 8 ch), (a 33, gI g 8 (it (mRd rd (bkW tx f wo)) (cpW ch wr 8) t))]) (w2 := [(a 0, oM a th (bI wk) ro (nI lo) (nI ne) (nI di) (bI ta) (nI ce) (nI fo) (nI bt)), (a 10, gI g 64 rd), (a 30, gI g 128 tx), (a 31, gI g 64 (it sprM (wdI tx f wo 16) 48)), (a 32, gI g 8 ch), (a 33, gI g 8 (it (mRd rd (bkW tx f wo)) (cpW ch wr 8) t))]) C (c_X5_right l g ((it (mRd rd (bkW tx f wo)) (cpW ch wr 8) t) 4) 6 (by omega)) (va_cwS 2 C.2.2.2.2.1 gX5_block_X5_right rfl rfl rfl (by decide +kernel) ⟨Nat.le_of_ble_eq_true rfl, Nat.le_of_ble_eq_true rfl⟩) [] [0, 1, 2, 3, 4, 5] rfl rfl rfl rfl rfl (by decide) rfl rfl (Nat.le_of_ble_eq_true rfl) dX5_block_246 ⟨Nat.le_of_ble_eq_true rfl, Nat.le_of_ble_eq_true rfl⟩ rfl ?_
                  refine g_iload C dX5_block_249 0 rfl ?_
                  refine g_bipush (v := nI 11) C dX5_block_251 (by decide) ?_
                  refine g_callS1 (wr := [(a 0, oM a th (bI wk) ro (nI lo) (nI ne) (nI di) (bI ta) (nI ce) (nI fo) (nI bt)), (a 10, gI g 64 rd), (a 30, gI g 128 tx), (a 31, gI g 64 (it sprM (wdI tx f wo 16) 48)), (a 32, gI g 8 ch), (a 33, gI g 8 (it (mRd rd (bkW tx f wo)) (cpW ch wr 8) t))]) (w2 := [(a 0, oM a th (bI wk) ro (nI lo) (nI ne) (nI di) (bI ta) (nI ce) (nI fo) (nI bt)), (a 10, gI g 64 rd), (a 30, gI g 128 tx), (a 31, gI g 64 (it sprM (wdI tx f wo 16) 48)), (a 32, gI g 8 ch), (a 33, gI g 8 (it (mRd rd (bkW tx f wo)) (cpW ch wr 8) t))]) C (c_X5_right l g ((it (mRd rd (bkW tx f wo)) (cpW ch wr 8) t) 4) 11 (by omega)) (va_cwS 2 C.2.2.2.2.1 gX5_block_X5_right rfl rfl rfl (by decide +kernel) ⟨Nat.le_of_ble_eq_true rfl, Nat.le_of_ble_eq_true rfl⟩) [] [0, 1, 2, 3, 4, 5] rfl rfl rfl rfl rfl (by decide) rfl rfl (Nat.le_of_ble_eq_true rfl) dX5_block_253 ⟨Nat.le_of_ble_eq_true rfl, Nat.le_of_ble_eq_true rfl⟩ rfl ?_
                  refine g_ixor C dX5_block_256 ?_
                  refine g_iload C dX5_block_257 0 rfl ?_
                  refine g_bipush (v := nI 25) C dX5_block_259 (by decide) ?_
                  refine g_callS1 (wr := [(a 0, oM a th (bI wk) ro (nI lo) (nI ne) (nI di) (bI ta) (nI ce) (nI fo) (nI bt)), (a 10, gI g 64 rd), (a 30, gI g 128 tx), (a 31, gI g 64 (it sprM (wdI tx f wo 16) 48)), (a 32, gI g 8 ch), (a 33, gI g 8 (it (mRd rd (bkW tx f wo)) (cpW ch wr 8) t))]) (w2 := [(a 0, oM a th (bI wk) ro (nI lo) (nI ne) (nI di) (bI ta) (nI ce) (nI fo) (nI bt)), (a 10, gI g 64 rd), (a 30, gI g 128 tx), (a 31, gI g 64 (it sprM (wdI tx f wo 16) 48)), (a 32, gI g 8 ch), (a 33, gI g 8 (it (mRd rd (bkW tx f wo)) (cpW ch wr 8) t))]) C (c_X5_right l g ((it (mRd rd (bkW tx f wo)) (cpW ch wr 8) t) 4) 25 (by omega)) (va_cwS 2 C.2.2.2.2.1 gX5_block_X5_right rfl rfl rfl (by decide +kernel) ⟨Nat.le_of_ble_eq_true rfl, Nat.le_of_ble_eq_true rfl⟩) [] [0, 1, 2, 3, 4, 5] rfl rfl rfl rfl rfl (by decide) rfl rfl (Nat.le_of_ble_eq_true rfl) dX5_block_261 ⟨Nat.le_of_ble_eq_true rfl, Nat.le_of_ble_eq_true rfl⟩ rfl ?_
                  refine g_ixor C dX5_block_264 ?_
                  refine g_iadd C dX5_block_265 ?_
                  refine g_iload C dX5_block_266 0 rfl ?_
                  refine g_aload_n C dX5_block_268 rfl 2 rfl ?_
                  refine g_get C hinX5 0 rfl rfl 32 (by decide) (by decide +kernel) rfl rfl dX5_block_269 ?_
                  refine g_iconst (v := nI 5) C dX5_block_272 (by decide) ?_
                  refine g_iald C 5 rfl (by omega) (by decide) dX5_block_273 ?_
                  refine g_iand C dX5_block_274 ?_
                  refine g_iload C dX5_block_275 0 rfl ?_
                  refine g_iconst (v := (-1)) C dX5_block_277 (by decide) ?_
                  refine g_ixor C dX5_block_278 ?_
                  refine g_aload_n C dX5_block_279 rfl 2 rfl ?_
                  refine g_get C hinX5 0 rfl rfl 32 (by decide) (by decide +kernel) rfl rfl dX5_block_280 ?_
                  refine g_bipush (v := nI 6) C dX5_block_283 (by decide) ?_
                  refine g_iald C 5 rfl (by omega) (by decide) dX5_block_285 ?_
                  refine g_iand C dX5_block_286 ?_
                  refine g_ixor C dX5_block_287 ?_
                  refine g_iadd C dX5_block_288 ?_
                  refine g_aload_n C dX5_block_289 rfl 2 rfl ?_
                  refine g_get C hinX5 0 rfl rfl 9 (by decide) (by decide +kernel) rfl rfl dX5_block_290 ?_
                  refine g_iload_n C dX5_block_293 rfl 4 rfl ?_
                  refine g_iald C 1 rfl (by omega) (by decide) dX5_block_294 ?_
                  refine g_iadd C dX5_block_295 ?_
                  refine g_aload_n C dX5_block_296 rfl 2 rfl ?_
                  refine g_get C hinX5 0 rfl rfl 30 (by decide) (by decide +kernel) rfl rfl dX5_block_297 ?_
                  refine g_iload_n C dX5_block_300 rfl 4 rfl ?_
                  refine g_iald C 3 rfl (by omega) (by decide) dX5_block_301 ?_
                  refine g_iadd C dX5_block_302 ?_
                  refine g_istore (L' := [(5, .int ((((((it (mRd rd (bkW tx f wo)) (cpW ch wr 8) t) 7) + (((mR ((it (mRd rd (bkW tx f wo)) (cpW ch wr 8) t) 4) 6) ^^^ (mR ((it (mRd rd (bkW tx f wo)) (cpW ch wr 8) t) 4) 11)) ^^^ (mR ((it (mRd rd (bkW tx f wo)) (cpW ch wr 8) t) 4) 25))) + ((((it (mRd rd (bkW tx f wo)) (cpW ch wr 8) t) 4) &&& ((it (mRd rd (bkW tx f wo)) (cpW ch wr 8) t) 5)) ^^^ ((((it (mRd rd (bkW tx f wo)) (cpW ch wr 8) t) 4) ^^^ (-1)) &&& ((it (mRd rd (bkW tx f wo)) (cpW ch wr 8) t) 6)))) + (rd t)) + ((it sprM (wdI tx f wo 16) 48) t))), (4, .int ((it (mRd rd (bkW tx f wo)) (cpW ch wr 8) t) 4)), (3, .int ((it (mRd rd (bkW tx f wo)) (cpW ch wr 8) t) 0)), (0, .ref (a 0)), (1, .int (nI f)), (2, .int (nI t))]) C dX5_block_303 (by decide) rfl ?_
                  refine g_iload_n C dX5_block_305 rfl 2 rfl ?_
                  refine g_iconst (v := nI 2) C dX5_block_306 (by decide) ?_
                  refine g_callS1 (wr := [(a 0, oM a th (bI wk) ro (nI lo) (nI ne) (nI di) (bI ta) (nI ce) (nI fo) (nI bt)), (a 10, gI g 64 rd), (a 30, gI g 128 tx), (a 31, gI g 64 (it sprM (wdI tx f wo 16) 48)), (a 32, gI g 8 ch), (a 33, gI g 8 (it (mRd rd (bkW tx f wo)) (cpW ch wr 8) t))]) (w2 := [(a 0, oM a th (bI wk) ro (nI lo) (nI ne) (nI di) (bI ta) (nI ce) (nI fo) (nI bt)), (a 10, gI g 64 rd), (a 30, gI g 128 tx), (a 31, gI g 64 (it sprM (wdI tx f wo 16) 48)), (a 32, gI g 8 ch), (a 33, gI g 8 (it (mRd rd (bkW tx f wo)) (cpW ch wr 8) t))]) C (c_X5_right l g ((it (mRd rd (bkW tx f wo)) (cpW ch wr 8) t) 0) 2 (by omega)) (va_cwS 2 C.2.2.2.2.1 gX5_block_X5_right rfl rfl rfl (by decide +kernel) ⟨Nat.le_of_ble_eq_true rfl, Nat.le_of_ble_eq_true rfl⟩) [] [0, 1, 2, 3, 4, 5] rfl rfl rfl rfl rfl (by decide) rfl rfl (Nat.le_of_ble_eq_true rfl) dX5_block_307 ⟨Nat.le_of_ble_eq_true rfl, Nat.le_of_ble_eq_true rfl⟩ rfl ?_
                  refine g_iload_n C dX5_block_310 rfl 2 rfl ?_
                  refine g_bipush (v := nI 13) C dX5_block_311 (by decide) ?_
                  refine g_callS1 (wr := [(a 0, oM a th (bI wk) ro (nI lo) (nI ne) (nI di) (bI ta) (nI ce) (nI fo) (nI bt)), (a 10, gI g 64 rd), (a 30, gI g 128 tx), (a 31, gI g 64 (it sprM (wdI tx f wo 16) 48)), (a 32, gI g 8 ch), (a 33, gI g 8 (it (mRd rd (bkW tx f wo)) (cpW ch wr 8) t))]) (w2 := [(a 0, oM a th (bI wk) ro (nI lo) (nI ne) (nI di) (bI ta) (nI ce) (nI fo) (nI bt)), (a 10, gI g 64 rd), (a 30, gI g 128 tx), (a 31, gI g 64 (it sprM (wdI tx f wo 16) 48)), (a 32, gI g 8 ch), (a 33, gI g 8 (it (mRd rd (bkW tx f wo)) (cpW ch wr 8) t))]) C (c_X5_right l g ((it (mRd rd (bkW tx f wo)) (cpW ch wr 8) t) 0) 13 (by omega)) (va_cwS 2 C.2.2.2.2.1 gX5_block_X5_right rfl rfl rfl (by decide +kernel) ⟨Nat.le_of_ble_eq_true rfl, Nat.le_of_ble_eq_true rfl⟩) [] [0, 1, 2, 3, 4, 5] rfl rfl rfl rfl rfl (by decide) rfl rfl (Nat.le_of_ble_eq_true rfl) dX5_block_313 ⟨Nat.le_of_ble_eq_true rfl, Nat.le_of_ble_eq_true rfl⟩ rfl ?_
                  refine g_ixor C dX5_block_316 ?_
                  refine g_iload_n C dX5_block_317 rfl 2 rfl ?_
                  refine g_bipush (v := nI 22) C dX5_block_318 (by decide) ?_
                  refine g_callS1 (wr := [(a 0, oM a th (bI wk) ro (nI lo) (nI ne) (nI di) (bI ta) (nI ce) (nI fo) (nI bt)), (a 10, gI g 64 rd), (a 30, gI g 128 tx), (a 31, gI g 64 (it sprM (wdI tx f wo 16) 48)), (a 32, gI g 8 ch), (a 33, gI g 8 (it (mRd rd (bkW tx f wo)) (cpW ch wr 8) t))]) (w2 := [(a 0, oM a th (bI wk) ro (nI lo) (nI ne) (nI di) (bI ta) (nI ce) (nI fo) (nI bt)), (a 10, gI g 64 rd), (a 30, gI g 128 tx), (a 31, gI g 64 (it sprM (wdI tx f wo 16) 48)), (a 32, gI g 8 ch), (a 33, gI g 8 (it (mRd rd (bkW tx f wo)) (cpW ch wr 8) t))]) C (c_X5_right l g ((it (mRd rd (bkW tx f wo)) (cpW ch wr 8) t) 0) 22 (by omega)) (va_cwS 2 C.2.2.2.2.1 gX5_block_X5_right rfl rfl rfl (by decide +kernel) ⟨Nat.le_of_ble_eq_true rfl, Nat.le_of_ble_eq_true rfl⟩) [] [0, 1, 2, 3, 4, 5] rfl rfl rfl rfl rfl (by decide) rfl rfl (Nat.le_of_ble_eq_true rfl) dX5_block_320 ⟨Nat.le_of_ble_eq_true rfl, Nat.le_of_ble_eq_true rfl⟩ rfl ?_
                  refine g_ixor C dX5_block_323 ?_
                  refine g_iload_n C dX5_block_324 rfl 2 rfl ?_
                  refine g_aload_n C dX5_block_325 rfl 3 rfl ?_
                  refine g_get C hinX5 0 rfl rfl 32 (by decide) (by decide +kernel) rfl rfl dX5_block_326 ?_
                  refine g_iconst (v := nI 1) C dX5_block_329 (by decide) ?_
                  refine g_iald C 5 rfl (by omega) (by decide) dX5_block_330 ?_
                  refine g_iand C dX5_block_331 ?_
                  refine g_iload_n C dX5_block_332 rfl 2 rfl ?_
                  refine g_aload_n C dX5_block_333 rfl 3 rfl ?_
                  refine g_get C hinX5 0 rfl rfl 32 (by decide) (by decide +kernel) rfl rfl dX5_block_334 ?_
                  refine g_iconst (v := nI 2) C dX5_block_337 (by decide) ?_
                  refine g_iald C 5 rfl (by omega) (by decide) dX5_block_338 ?_
                  refine g_iand C dX5_block_339 ?_
                  refine g_ixor C dX5_block_340 ?_
                  refine g_aload_n C dX5_block_341 rfl 3 rfl ?_
                  refine g_get C hinX5 0 rfl rfl 32 (by decide) (by decide +kernel) rfl rfl dX5_block_342 ?_
                  refine g_iconst (v := nI 1) C dX5_block_345 (by decide) ?_
                  refine g_iald C 5 rfl (by omega) (by decide) dX5_block_346 ?_
                  refine g_aload_n C dX5_block_347 rfl 3 rfl ?_
                  refine g_get C hinX5 0 rfl rfl 32 (by decide) (by decide +kernel) rfl rfl dX5_block_348 ?_
                  refine g_iconst (v := nI 2) C dX5_block_351 (by decide) ?_
                  refine g_iald C 5 rfl (by omega) (by decide) dX5_block_352 ?_
                  refine g_iand C dX5_block_353 ?_
                  refine g_ixor C dX5_block_354 ?_
                  refine g_iadd C dX5_block_355 ?_
                  refine g_istore (L' := [(6, .int ((((mR ((it (mRd rd (bkW tx f wo)) (cpW ch wr 8) t) 0) 2) ^^^ (mR ((it (mRd rd (bkW tx f wo)) (cpW ch wr 8) t) 0) 13)) ^^^ (mR ((it (mRd rd (bkW tx f wo)) (cpW ch wr 8) t) 0) 22)) + (((((it (mRd rd (bkW tx f wo)) (cpW ch wr 8) t) 0) &&& ((it (mRd rd (bkW tx f wo)) (cpW ch wr 8) t) 1)) ^^^ (((it (mRd rd (bkW tx f wo)) (cpW ch wr 8) t) 0) &&& ((it (mRd rd (bkW tx f wo)) (cpW ch wr 8) t) 2))) ^^^ (((it (mRd rd (bkW tx f wo)) (cpW ch wr 8) t) 1) &&& ((it (mRd rd (bkW tx f wo)) (cpW ch wr 8) t) 2))))), (5, .int ((((((it (mRd rd (bkW tx f wo)) (cpW ch wr 8) t) 7) + (((mR ((it (mRd rd (bkW tx f wo)) (cpW ch wr 8) t) 4) 6) ^^^ (mR ((it (mRd rd (bkW tx f wo)) (cpW ch wr 8) t) 4) 11)) ^^^ (mR ((it (mRd rd (bkW tx f wo)) (cpW ch wr 8) t) 4) 25))) + ((((it (mRd rd (bkW tx f wo)) (cpW ch wr 8) t) 4) &&& ((it (mRd rd (bkW tx f wo)) (cpW ch wr 8) t) 5)) ^^^ ((((it (mRd rd (bkW tx f wo)) (cpW ch wr 8) t) 4) ^^^ (-1)) &&& ((it (mRd rd (bkW tx f wo)) (cpW ch wr 8) t) 6)))) + (rd t)) + ((it sprM (wdI tx f wo 16) 48) t))), (4, .int ((it (mRd rd (bkW tx f wo)) (cpW ch wr 8) t) 4)), (3, .int ((it (mRd rd (bkW tx f wo)) (cpW ch wr 8) t) 0)), (0, .ref (a 0)), (1, .int (nI f)), (2, .int (nI t))]) C dX5_block_356 (by decide) rfl ?_
                  refine g_bipush (v := nI 7) C dX5_block_358 (by decide) ?_
                  refine g_istore (L' := [(7, .int (nI 7)), (6, .int ((((mR ((it (mRd rd (bkW tx f wo)) (cpW ch wr 8) t) 0) 2) ^^^ (mR ((it (mRd rd (bkW tx f wo)) (cpW ch wr 8) t) 0) 13)) ^^^ (mR ((it (mRd rd (bkW tx f wo)) (cpW ch wr 8) t) 0) 22)) + (((((it (mRd rd (bkW tx f wo)) (cpW ch wr 8) t) 0) &&& ((it (mRd rd (bkW tx f wo)) (cpW ch wr 8) t) 1)) ^^^ (((it (mRd rd (bkW tx f wo)) (cpW ch wr 8) t) 0) &&& ((it (mRd rd (bkW tx f wo)) (cpW ch wr 8) t) 2))) ^^^ (((it (mRd rd (bkW tx f wo)) (cpW ch wr 8) t) 1) &&& ((it (mRd rd (bkW tx f wo)) (cpW ch wr 8) t) 2))))), (5, .int ((((((it (mRd rd (bkW tx f wo)) (cpW ch wr 8) t) 7) + (((mR ((it (mRd rd (bkW tx f wo)) (cpW ch wr 8) t) 4) 6) ^^^ (mR ((it (mRd rd (bkW tx f wo)) (cpW ch wr 8) t) 4) 11)) ^^^ (mR ((it (mRd rd (bkW tx f wo)) (cpW ch wr 8) t) 4) 25))) + ((((it (mRd rd (bkW tx f wo)) (cpW ch wr 8) t) 4) &&& ((it (mRd rd (bkW tx f wo)) (cpW ch wr 8) t) 5)) ^^^ ((((it (mRd rd (bkW tx f wo)) (cpW ch wr 8) t) 4) ^^^ (-1)) &&& ((it (mRd rd (bkW tx f wo)) (cpW ch wr 8) t) 6)))) + (rd t)) + ((it sprM (wdI tx f wo 16) 48) t))), (4, .int ((it (mRd rd (bkW tx f wo)) (cpW ch wr 8) t) 4)), (3, .int ((it (mRd rd (bkW tx f wo)) (cpW ch wr 8) t) 0)), (0, .ref (a 0)), (1, .int (nI f)), (2, .int (nI t))]) C dX5_block_360 (by decide) rfl ?_
                  refine g_up 7 0 (fun _ => True) (fun u => [(7, .int (nI (7 - u))), (6, .int ((((mR ((it (mRd rd (bkW tx f wo)) (cpW ch wr 8) t) 0) 2) ^^^ (mR ((it (mRd rd (bkW tx f wo)) (cpW ch wr 8) t) 0) 13)) ^^^ (mR ((it (mRd rd (bkW tx f wo)) (cpW ch wr 8) t) 0) 22)) + (((((it (mRd rd (bkW tx f wo)) (cpW ch wr 8) t) 0) &&& ((it (mRd rd (bkW tx f wo)) (cpW ch wr 8) t) 1)) ^^^ (((it (mRd rd (bkW tx f wo)) (cpW ch wr 8) t) 0) &&& ((it (mRd rd (bkW tx f wo)) (cpW ch wr 8) t) 2))) ^^^ (((it (mRd rd (bkW tx f wo)) (cpW ch wr 8) t) 1) &&& ((it (mRd rd (bkW tx f wo)) (cpW ch wr 8) t) 2))))), (5, .int ((((((it (mRd rd (bkW tx f wo)) (cpW ch wr 8) t) 7) + (((mR ((it (mRd rd (bkW tx f wo)) (cpW ch wr 8) t) 4) 6) ^^^ (mR ((it (mRd rd (bkW tx f wo)) (cpW ch wr 8) t) 4) 11)) ^^^ (mR ((it (mRd rd (bkW tx f wo)) (cpW ch wr 8) t) 4) 25))) + ((((it (mRd rd (bkW tx f wo)) (cpW ch wr 8) t) 4) &&& ((it (mRd rd (bkW tx f wo)) (cpW ch wr 8) t) 5)) ^^^ ((((it (mRd rd (bkW tx f wo)) (cpW ch wr 8) t) 4) ^^^ (-1)) &&& ((it (mRd rd (bkW tx f wo)) (cpW ch wr 8) t) 6)))) + (rd t)) + ((it sprM (wdI tx f wo 16) 48) t))), (4, .int ((it (mRd rd (bkW tx f wo)) (cpW ch wr 8) t) 4)), (3, .int ((it (mRd rd (bkW tx f wo)) (cpW ch wr 8) t) 0)), (0, .ref (a 0)), (1, .int (nI f)), (2, .int (nI t))]) (fun u => [(a 0, oM a th (bI wk) ro (nI lo) (nI ne) (nI di) (bI ta) (nI ce) (nI fo) (nI bt)), (a 10, gI g 64 rd), (a 30, gI g 128 tx), (a 31, gI g 64 (it sprM (wdI tx f wo 16) 48)), (a 32, gI g 8 ch), (a 33, gI g 8 (shf (it (mRd rd (bkW tx f wo)) (cpW ch wr 8) t) u))]) (by omega) (trivial) ?_ ?_
                  · intro hPu
                    try dsimp only
                    refine g_iload C dX5_block_362 0 rfl ?_
                    refine g_if_le_n (tgt := 389) C dX5_block_364 (by decide) (by omega) (fun c364 => ?_) (fun c364 => ?_)
                    · skip
                      refine g_aload_n C dX5_block_389 rfl 5 rfl ?_
                      refine g_get C hinX5 0 rfl rfl 32 (by decide) (by decide +kernel) rfl rfl dX5_block_390 ?_
                      refine g_iconst (v := nI 4) C dX5_block_393 (by decide) ?_
                      refine g_dup2 C dX5_block_394 rfl rfl ?_
                      refine g_iald C 5 rfl (by omega) (by decide) dX5_block_395 ?_
                      refine g_iload C dX5_block_396 2 rfl ?_
                      refine g_iadd C dX5_block_398 ?_
                      refine g_iast (w2 := [(a 0, oM a th (bI wk) ro (nI lo) (nI ne) (nI di) (bI ta) (nI ce) (nI fo) (nI bt)), (a 10, gI g 64 rd), (a 30, gI g 128 tx), (a 31, gI g 64 (it sprM (wdI tx f wo 16) 48)), (a 32, gI g 8 ch), (a 33, gI g 8 (va_up (shf (it (mRd rd (bkW tx f wo)) (cpW ch wr 8) t) 7) 4 (((shf (it (mRd rd (bkW tx f wo)) (cpW ch wr 8) t) 7) 4) + ((((((it (mRd rd (bkW tx f wo)) (cpW ch wr 8) t) 7) + (((mR ((it (mRd rd (bkW tx f wo)) (cpW ch wr 8) t) 4) 6) ^^^ (mR ((it (mRd rd (bkW tx f wo)) (cpW ch wr 8) t) 4) 11)) ^^^ (mR ((it (mRd rd (bkW tx f wo)) (cpW ch wr 8) t) 4) 25))) + ((((it (mRd rd (bkW tx f wo)) (cpW ch wr 8) t) 4) &&& ((it (mRd rd (bkW tx f wo)) (cpW ch wr 8) t) 5)) ^^^ ((((it (mRd rd (bkW tx f wo)) (cpW ch wr 8) t) 4) ^^^ (-1)) &&& ((it (mRd rd (bkW tx f wo)) (cpW ch wr 8) t) 6)))) + (rd t)) + ((it sprM (wdI tx f wo 16) 48) t)))))]) C 5 rfl (by omega) (by decide) rfl dX5_block_399 ?_
                      refine g_aload_n C dX5_block_400 rfl 5 rfl ?_
                      refine g_get C hinX5 0 rfl rfl 32 (by decide) (by decide +kernel) rfl rfl dX5_block_401 ?_
                      refine g_iconst (v := nI 0) C dX5_block_404 (by decide) ?_
                      refine g_iload C dX5_block_405 2 rfl ?_
                      refine g_iload C dX5_block_407 1 rfl ?_
                      refine g_iadd C dX5_block_409 ?_
                      refine g_iast (w2 := [(a 0, oM a th (bI wk) ro (nI lo) (nI ne) (nI di) (bI ta) (nI ce) (nI fo) (nI bt)), (a 10, gI g 64 rd), (a 30, gI g 128 tx), (a 31, gI g 64 (it sprM (wdI tx f wo 16) 48)), (a 32, gI g 8 ch), (a 33, gI g 8 (va_up (va_up (shf (it (mRd rd (bkW tx f wo)) (cpW ch wr 8) t) 7) 4 (((shf (it (mRd rd (bkW tx f wo)) (cpW ch wr 8) t) 7) 4) + ((((((it (mRd rd (bkW tx f wo)) (cpW ch wr 8) t) 7) + (((mR ((it (mRd rd (bkW tx f wo)) (cpW ch wr 8) t) 4) 6) ^^^ (mR ((it (mRd rd (bkW tx f wo)) (cpW ch wr 8) t) 4) 11)) ^^^ (mR ((it (mRd rd (bkW tx f wo)) (cpW ch wr 8) t) 4) 25))) + ((((it (mRd rd (bkW tx f wo)) (cpW ch wr 8) t) 4) &&& ((it (mRd rd (bkW tx f wo)) (cpW ch wr 8) t) 5)) ^^^ ((((it (mRd rd (bkW tx f wo)) (cpW ch wr 8) t) 4) ^^^ (-1)) &&& ((it (mRd rd (bkW tx f wo)) (cpW ch wr 8) t) 6)))) + (rd t)) + ((it sprM (wdI tx f wo 16) 48) t)))) 0 (((((((it (mRd rd (bkW tx f wo)) (cpW ch wr 8) t) 7) + (((mR ((it (mRd rd (bkW tx f wo)) (cpW ch wr 8) t) 4) 6) ^^^ (mR ((it (mRd rd (bkW tx f wo)) (cpW ch wr 8) t) 4) 11)) ^^^ (mR ((it (mRd rd (bkW tx f wo)) (cpW ch wr 8) t) 4) 25))) + ((((it (mRd rd (bkW tx f wo)) (cpW ch wr 8) t) 4) &&& ((it (mRd rd (bkW tx f wo)) (cpW ch wr 8) t) 5)) ^^^ ((((it (mRd rd (bkW tx f wo)) (cpW ch wr 8) t) 4) ^^^ (-1)) &&& ((it (mRd rd (bkW tx f wo)) (cpW ch wr 8) t) 6)))) + (rd t)) + ((it sprM (wdI tx f wo 16) 48) t)) + ((((mR ((it (mRd rd (bkW tx f wo)) (cpW ch wr 8) t) 0) 2) ^^^ (mR ((it (mRd rd (bkW tx f wo)) (cpW ch wr 8) t) 0) 13)) ^^^ (mR ((it (mRd rd (bkW tx f wo)) (cpW ch wr 8) t) 0) 22)) + (((((it (mRd rd (bkW tx f wo)) (cpW ch wr 8) t) 0) &&& ((it (mRd rd (bkW tx f wo)) (cpW ch wr 8) t) 1)) ^^^ (((it (mRd rd (bkW tx f wo)) (cpW ch wr 8) t) 0) &&& ((it (mRd rd (bkW tx f wo)) (cpW ch wr 8) t) 2))) ^^^ (((it (mRd rd (bkW tx f wo)) (cpW ch wr 8) t) 1) &&& ((it (mRd rd (bkW tx f wo)) (cpW ch wr 8) t) 2)))))))]) C 5 rfl (by omega) (by decide) rfl dX5_block_410 ?_
                      refine g_iinc_n (d := 1) (L' := [(2, .int (nI (t + 1))), (7, .int (nI (7 - 7))), (6, .int ((((mR ((it (mRd rd (bkW tx f wo)) (cpW ch wr 8) t) 0) 2) ^^^ (mR ((it (mRd rd (bkW tx f wo)) (cpW ch wr 8) t) 0) 13)) ^^^ (mR ((it (mRd rd (bkW tx f wo)) (cpW ch wr 8) t) 0) 22)) + (((((it (mRd rd (bkW tx f wo)) (cpW ch wr 8) t) 0) &&& ((it (mRd rd (bkW tx f wo)) (cpW ch wr 8) t) 1)) ^^^ (((it (mRd rd (bkW tx f wo)) (cpW ch wr 8) t) 0) &&& ((it (mRd rd (bkW tx f wo)) (cpW ch wr 8) t) 2))) ^^^ (((it (mRd rd (bkW tx f wo)) (cpW ch wr 8) t) 1) &&& ((it (mRd rd (bkW tx f wo)) (cpW ch wr 8) t) 2))))), (5, .int ((((((it (mRd rd (bkW tx f wo)) (cpW ch wr 8) t) 7) + (((mR ((it (mRd rd (bkW tx f wo)) (cpW ch wr 8) t) 4) 6) ^^^ (mR ((it (mRd rd (bkW tx f wo)) (cpW ch wr 8) t) 4) 11)) ^^^ (mR ((it (mRd rd (bkW tx f wo)) (cpW ch wr 8) t) 4) 25))) + ((((it (mRd rd (bkW tx f wo)) (cpW ch wr 8) t) 4) &&& ((it (mRd rd (bkW tx f wo)) (cpW ch wr 8) t) 5)) ^^^ ((((it (mRd rd (bkW tx f wo)) (cpW ch wr 8) t) 4) ^^^ (-1)) &&& ((it (mRd rd (bkW tx f wo)) (cpW ch wr 8) t) 6)))) + (rd t)) + ((it sprM (wdI tx f wo 16) 48) t))), (4, .int ((it (mRd rd (bkW tx f wo)) (cpW ch wr 8) t) 4)), (3, .int ((it (mRd rd (bkW tx f wo)) (cpW ch wr 8) t) 0)), (0, .ref (a 0)), (1, .int (nI f))]) C dX5_block_411 7 rfl (by decide) (by decide) rfl ?_
                      refine g_goto (tgt := 214) C dX5_block_414 (by decide) ?_
                      refine g_L (L2 := [(0, .ref (a 0)), (1, .int (nI f)), (2, .int (nI (t + 1)))]) [6, 7, 0] rfl ?_
                      exact iht (trivial)
                    · skip
                      exfalso; omega
                  · intro u hlu huu hPu ihu
                    try dsimp only at ihu ⊢
                    refine g_iload C dX5_block_362 0 rfl ?_
                    refine g_if_le_n (tgt := 389) C dX5_block_364 (by decide) (by omega) (fun c364 => ?_) (fun c364 => ?_)
                    · skip
                      exfalso; omega
                    · skip
                      refine g_aload_n C dX5_block_367 rfl 5 rfl ?_
                      refine g_get C hinX5 0 rfl rfl 32 (by decide) (by decide +kernel) rfl rfl dX5_block_368 ?_
                      refine g_iload C dX5_block_371 0 rfl ?_
                      refine g_aload_n C dX5_block_373 rfl 5 rfl ?_
                      refine g_get C hinX5 0 rfl rfl 32 (by decide) (by decide +kernel) rfl rfl dX5_block_374 ?_
                      refine g_iload C dX5_block_377 0 rfl ?_
                      refine g_iconst (v := nI 1) C dX5_block_379 (by decide) ?_
                      refine g_isub_n C dX5_block_380 (by omega) ?_
                      refine g_iald C 5 rfl (by omega) (by decide) dX5_block_381 ?_
                      refine g_iast (w2 := [(a 0, oM a th (bI wk) ro (nI lo) (nI ne) (nI di) (bI ta) (nI ce) (nI fo) (nI bt)), (a 10, gI g 64 rd), (a 30, gI g 128 tx), (a 31, gI g 64 (it sprM (wdI tx f wo 16) 48)), (a 32, gI g 8 ch), (a 33, gI g 8 (va_up (shf (it (mRd rd (bkW tx f wo)) (cpW ch wr 8) t) u) (7 - u) ((shf (it (mRd rd (bkW tx f wo)) (cpW ch wr 8) t) u) ((7 - u) - 1))))]) C 5 rfl (by omega) (by decide) rfl dX5_block_382 ?_
                      refine g_idec_n (d := 1) (L' := [(7, .int (nI ((7 - u) - 1))), (6, .int ((((mR ((it (mRd rd (bkW tx f wo)) (cpW ch wr 8) t) 0) 2) ^^^ (mR ((it (mRd rd (bkW tx f wo)) (cpW ch wr 8) t) 0) 13)) ^^^ (mR ((it (mRd rd (bkW tx f wo)) (cpW ch wr 8) t) 0) 22)) + (((((it (mRd rd (bkW tx f wo)) (cpW ch wr 8) t) 0) &&& ((it (mRd rd (bkW tx f wo)) (cpW ch wr 8) t) 1)) ^^^ (((it (mRd rd (bkW tx f wo)) (cpW ch wr 8) t) 0) &&& ((it (mRd rd (bkW tx f wo)) (cpW ch wr 8) t) 2))) ^^^ (((it (mRd rd (bkW tx f wo)) (cpW ch wr 8) t) 1) &&& ((it (mRd rd (bkW tx f wo)) (cpW ch wr 8) t) 2))))), (5, .int ((((((it (mRd rd (bkW tx f wo)) (cpW ch wr 8) t) 7) + (((mR ((it (mRd rd (bkW tx f wo)) (cpW ch wr 8) t) 4) 6) ^^^ (mR ((it (mRd rd (bkW tx f wo)) (cpW ch wr 8) t) 4) 11)) ^^^ (mR ((it (mRd rd (bkW tx f wo)) (cpW ch wr 8) t) 4) 25))) + ((((it (mRd rd (bkW tx f wo)) (cpW ch wr 8) t) 4) &&& ((it (mRd rd (bkW tx f wo)) (cpW ch wr 8) t) 5)) ^^^ ((((it (mRd rd (bkW tx f wo)) (cpW ch wr 8) t) 4) ^^^ (-1)) &&& ((it (mRd rd (bkW tx f wo)) (cpW ch wr 8) t) 6)))) + (rd t)) + ((it sprM (wdI tx f wo 16) 48) t))), (4, .int ((it (mRd rd (bkW tx f wo)) (cpW ch wr 8) t) 4)), (3, .int ((it (mRd rd (bkW tx f wo)) (cpW ch wr 8) t) 0)), (0, .ref (a 0)), (1, .int (nI f)), (2, .int (nI t))]) C dX5_block_383 0 rfl (by decide) (by omega) (by decide) rfl ?_
                      refine g_goto (tgt := 362) C dX5_block_386 (by decide) ?_
                      exact ihu (trivial)
            · skip
              exfalso; omega
          · intro t hlt hut hPt iht
            try dsimp only at iht ⊢
            refine g_iload_n C dX5_block_188 rfl 2 rfl ?_
            refine g_bipush (v := nI 8) C dX5_block_189 (by decide) ?_
            refine g_icmp_ge_n (tgt := 212) C dX5_block_191 (by decide) (by omega) (by omega) (fun c191 => ?_) (fun c191 => ?_)
            · skip
              exfalso; omega
            · skip
              refine g_aload_n C dX5_block_194 rfl 0 rfl ?_
              refine g_get C hinX5 0 rfl rfl 32 (by decide) (by decide +kernel) rfl rfl dX5_block_195 ?_
              refine g_iload_n C dX5_block_198 rfl 2 rfl ?_
              refine g_aload_n C dX5_block_199 rfl 0 rfl ?_
              refine g_get C hinX5 0 rfl rfl 31 (by decide) (by decide +kernel) rfl rfl dX5_block_200 ?_
              refine g_iload_n C dX5_block_203 rfl 2 rfl ?_
              refine g_iald C 4 rfl (by omega) (by decide) dX5_block_204 ?_
              refine g_iast (w2 := [(a 0, oM a th (bI wk) ro (nI lo) (nI ne) (nI di) (bI ta) (nI ce) (nI fo) (nI bt)), (a 10, gI g 64 rd), (a 30, gI g 128 tx), (a 31, gI g 64 (it sprM (wdI tx f wo 16) 48)), (a 32, gI g 8 ch), (a 33, gI g 8 (va_up (cpW ch wr t) t (ch t)))]) C 5 rfl (by omega) (by decide) rfl dX5_block_205 ?_
              refine g_iinc_n (d := 1) (L' := [(2, .int (nI (t + 1))), (0, .ref (a 0)), (1, .int (nI f))]) C dX5_block_206 2 rfl (by decide) (by decide) rfl ?_
              refine g_goto (tgt := 188) C dX5_block_209 (by decide) ?_
              refine g_L (L2 := [(0, .ref (a 0)), (1, .int (nI f)), (2, .int (nI (t + 1)))]) [1, 2, 0] rfl ?_
              exact iht (trivial)
        · skip
          exfalso; omega
      · intro t hlt hut hPt iht
        try dsimp only at iht ⊢
        refine g_iload_n C dX5_block_81 rfl 2 rfl ?_
        refine g_bipush (v := nI 64) C dX5_block_82 (by decide) ?_
        refine g_icmp_ge_n (tgt := 186) C dX5_block_84 (by decide) (by omega) (by omega) (fun c84 => ?_) (fun c84 => ?_)
        · skip
          exfalso; omega
        · skip
          refine g_aload_n C dX5_block_87 rfl 0 rfl ?_
          refine g_get C hinX5 0 rfl rfl 30 (by decide) (by decide +kernel) rfl rfl dX5_block_88 ?_
          refine g_iload_n C dX5_block_91 rfl 2 rfl ?_
          refine g_bipush (v := nI 15) C dX5_block_92 (by decide) ?_
          refine g_isub_n C dX5_block_94 (by omega) ?_
          refine g_iald C 3 rfl (by omega) (by decide) dX5_block_95 ?_
          refine g_istore_n (L' := [(3, .int ((it sprM (wdI tx f wo 16) t) ((16 + t) - 15))), (0, .ref (a 0)), (1, .int (nI f)), (2, .int (nI (16 + t)))]) C dX5_block_96 rfl (by decide) rfl ?_
          refine g_aload_n C dX5_block_97 rfl 1 rfl ?_
          refine g_get C hinX5 0 rfl rfl 30 (by decide) (by decide +kernel) rfl rfl dX5_block_98 ?_
          refine g_iload_n C dX5_block_101 rfl 3 rfl ?_
          refine g_iconst (v := nI 2) C dX5_block_102 (by decide) ?_
          refine g_isub_n C dX5_block_103 (by omega) ?_
          refine g_iald C 3 rfl (by omega) (by decide) dX5_block_104 ?_
          refine g_istore (L' := [(4, .int ((it sprM (wdI tx f wo 16) t) ((16 + t) - 2))), (3, .int ((it sprM (wdI tx f wo 16) t) ((16 + t) - 15))), (0, .ref (a 0)), (1, .int (nI f)), (2, .int (nI (16 + t)))]) C dX5_block_105 (by decide) rfl ?_
          refine g_iload_n C dX5_block_107 rfl 1 rfl ?_
          refine g_bipush (v := nI 7) C dX5_block_108 (by decide) ?_
          refine g_callS1 (wr := [(a 0, oM a th (bI wk) ro (nI lo) (nI ne) (nI di) (bI ta) (nI ce) (nI fo) (nI bt)), (a 10, gI g 64 rd), (a 30, gI g 128 tx), (a 31, gI g 64 (it sprM (wdI tx f wo 16) t)), (a 32, gI g 8 ch), (a 33, gI g 8 wr)]) (w2 := [(a 0, oM a th (bI wk) ro (nI lo) (nI ne) (nI di) (bI ta) (nI ce) (nI fo) (nI bt)), (a 10, gI g 64 rd), (a 30, gI g 128 tx), (a 31, gI g 64 (it sprM (wdI tx f wo 16) t)), (a 32, gI g 8 ch), (a 33, gI g 8 wr)]) C (c_X5_right l g ((it sprM (wdI tx f wo 16) t) ((16 + t) - 15)) 7 (by omega)) (va_cwS 2 C.2.2.2.2.1 gX5_block_X5_right rfl rfl rfl (by decide +kernel) ⟨Nat.le_of_ble_eq_true rfl, Nat.le_of_ble_eq_true rfl⟩) [] [0, 1, 2, 3, 4, 5] rfl rfl rfl rfl rfl (by decide) rfl rfl (Nat.le_of_ble_eq_true rfl) dX5_block_110 ⟨Nat.le_of_ble_eq_true rfl, Nat.le_of_ble_eq_true rfl⟩ rfl ?_
          refine g_iload_n C dX5_block_113 rfl 1 rfl ?_
          refine g_bipush (v := nI 18) C dX5_block_114 (by decide) ?_
          refine g_callS1 (wr := [(a 0, oM a th (bI wk) ro (nI lo) (nI ne) (nI di) (bI ta) (nI ce) (nI fo) (nI bt)), (a 10, gI g 64 rd), (a 30, gI g 128 tx), (a 31, gI g 64 (it sprM (wdI tx f wo 16) t)), (a 32, gI g 8 ch), (a 33, gI g 8 wr)]) (w2 := [(a 0, oM a th (bI wk) ro (nI lo) (nI ne) (nI di) (bI ta) (nI ce) (nI fo) (nI bt)), (a 10, gI g 64 rd), (a 30, gI g 128 tx), (a 31, gI g 64 (it sprM (wdI tx f wo 16) t)), (a 32, gI g 8 ch), (a 33, gI g 8 wr)]) C (c_X5_right l g ((it sprM (wdI tx f wo 16) t) ((16 + t) - 15)) 18 (by omega)) (va_cwS 2 C.2.2.2.2.1 gX5_block_X5_right rfl rfl rfl (by decide +kernel) ⟨Nat.le_of_ble_eq_true rfl, Nat.le_of_ble_eq_true rfl⟩) [] [0, 1, 2, 3, 4, 5] rfl rfl rfl rfl rfl (by decide) rfl rfl (Nat.le_of_ble_eq_true rfl) dX5_block_116 ⟨Nat.le_of_ble_eq_true rfl, Nat.le_of_ble_eq_true rfl⟩ rfl ?_
          refine g_ixor C dX5_block_119 ?_
          refine g_iload_n C dX5_block_120 rfl 1 rfl ?_
          refine g_iconst (v := nI 3) C dX5_block_121 (by decide) ?_
          refine g_iushr C dX5_block_122 ?_
          refine g_ixor C dX5_block_123 ?_
          refine g_istore (L' := [(5, .int (((mR ((it sprM (wdI tx f wo 16) t) ((16 + t) - 15)) 7) ^^^ (mR ((it sprM (wdI tx f wo 16) t) ((16 + t) - 15)) 18)) ^^^ ((Int32.toUInt32 ((it sprM (wdI tx f wo 16) t) ((16 + t) - 15)) >>> (Int32.toUInt32 (nI 3) &&& Int32.toUInt32 31)).toInt32))), (4, .int ((it sprM (wdI tx f wo 16) t) ((16 + t) - 2))), (3, .int ((it sprM (wdI tx f wo 16) t) ((16 + t) - 15))), (0, .ref (a 0)), (1, .int (nI f)), (2, .int (nI (16 + t)))]) C dX5_block_124 (by decide) rfl ?_
          refine g_iload C dX5_block_126 1 rfl ?_
          refine g_bipush (v := nI 17) C dX5_block_128 (by decide) ?_
          refine g_callS1 (wr := [(a 0, oM a th (bI wk) ro (nI lo) (nI ne) (nI di) (bI ta) (nI ce) (nI fo) (nI bt)), (a 10, gI g 64 rd), (a 30, gI g 128 tx), (a 31, gI g 64 (it sprM (wdI tx f wo 16) t)), (a 32, gI g 8 ch), (a 33, gI g 8 wr)]) (w2 := [(a 0, oM a th (bI wk) ro (nI lo) (nI ne) (nI di) (bI ta) (nI ce) (nI fo) (nI bt)), (a 10, gI g 64 rd), (a 30, gI g 128 tx), (a 31, gI g 64 (it sprM (wdI tx f wo 16) t)), (a 32, gI g 8 ch), (a 33, gI g 8 wr)]) C (c_X5_right l g ((it sprM (wdI tx f wo 16) t) ((16 + t) - 2)) 17 (by omega)) (va_cwS 2 C.2.2.2.2.1 gX5_block_X5_right rfl rfl rfl (by decide +kernel) ⟨Nat.le_of_ble_eq_true rfl, Nat.le_of_ble_eq_true rfl⟩) [] [0, 1, 2, 3, 4, 5] rfl rfl rfl rfl rfl (by decide) rfl rfl (Nat.le_of_ble_eq_true rfl) dX5_block_130 ⟨Nat.le_of_ble_eq_true rfl, Nat.le_of_ble_eq_true rfl⟩ rfl ?_
          refine g_iload C dX5_block_133 1 rfl ?_
          refine g_bipush (v := nI 19) C dX5_block_135 (by decide) ?_
          refine g_callS1 (wr := [(a 0, oM a th (bI wk) ro (nI lo) (nI ne) (nI di) (bI ta) (nI ce) (nI fo) (nI bt)), (a 10, gI g 64 rd), (a 30, gI g 128 tx), (a 31, gI g 64 (it sprM (wdI tx f wo 16) t)), (a 32, gI g 8 ch), (a 33, gI g 8 wr)]) (w2 := [(a 0, oM a th (bI wk) ro (nI lo) (nI ne) (nI di) (bI ta) (nI ce) (nI fo) (nI bt)), (a 10, gI g 64 rd), (a 30, gI g 128 tx), (a 31, gI g 64 (it sprM (wdI tx f wo 16) t)), (a 32, gI g 8 ch), (a 33, gI g 8 wr)]) C (c_X5_right l g ((it sprM (wdI tx f wo 16) t) ((16 + t) - 2)) 19 (by omega)) (va_cwS 2 C.2.2.2.2.1 gX5_block_X5_right rfl rfl rfl (by decide +kernel) ⟨Nat.le_of_ble_eq_true rfl, Nat.le_of_ble_eq_true rfl⟩) [] [0, 1, 2, 3, 4, 5] rfl rfl rfl rfl rfl (by decide) rfl rfl (Nat.le_of_ble_eq_true rfl) dX5_block_137 ⟨Nat.le_of_ble_eq_true rfl, Nat.le_of_ble_eq_true rfl⟩ rfl ?_
          refine g_ixor C dX5_block_140 ?_
          refine g_iload C dX5_block_141 1 rfl ?_
          refine g_bipush (v := nI 10) C dX5_block_143 (by decide) ?_
          refine g_iushr C dX5_block_145 ?_
          refine g_ixor C dX5_block_146 ?_
          refine g_istore (L' := [(6, .int (((mR ((it sprM (wdI tx f wo 16) t) ((16 + t) - 2)) 17) ^^^ (mR ((it sprM (wdI tx f wo 16) t) ((16 + t) - 2)) 19)) ^^^ ((Int32.toUInt32 ((it sprM (wdI tx f wo 16) t) ((16 + t) - 2)) >>> (Int32.toUInt32 (nI 10) &&& Int32.toUInt32 31)).toInt32))), (5, .int (((mR ((it sprM (wdI tx f wo 16) t) ((16 + t) - 15)) 7) ^^^ (mR ((it sprM (wdI tx f wo 16) t) ((16 + t) - 15)) 18)) ^^^ ((Int32.toUInt32 ((it sprM (wdI tx f wo 16) t) ((16 + t) - 15)) >>> (Int32.toUInt32 (nI 3) &&& Int32.toUInt32 31)).toInt32))), (4, .int ((it sprM (wdI tx f wo 16) t) ((16 + t) - 2))), (3, .int ((it sprM (wdI tx f wo 16) t) ((16 + t) - 15))), (0, .ref (a 0)), (1, .int (nI f)), (2, .int (nI (16 + t)))]) C dX5_block_147 (by decide) rfl ?_
          refine g_aload_n C dX5_block_149 rfl 4 rfl ?_
          refine g_get C hinX5 0 rfl rfl 30 (by decide) (by decide +kernel) rfl rfl dX5_block_150 ?_
          refine g_iload_n C dX5_block_153 rfl 6 rfl ?_
          refine g_iload C dX5_block_154 0 rfl ?_
          refine g_aload_n C dX5_block_156 rfl 4 rfl ?_
          refine g_get C hinX5 0 rfl rfl 30 (by decide) (by decide +kernel) rfl rfl dX5_block_157 ?_
          refine g_iload_n C dX5_block_160 rfl 6 rfl ?_
          refine g_bipush (v := nI 7) C dX5_block_161 (by decide) ?_
          refine g_isub_n C dX5_block_163 (by omega) ?_
          refine g_iald C 3 rfl (by omega) (by decide) dX5_block_164 ?_
          refine g_iadd C dX5_block_165 ?_
          refine g_iload C dX5_block_166 1 rfl ?_
          refine g_iadd C dX5_block_168 ?_
          refine g_aload_n C dX5_block_169 rfl 4 rfl ?_
          refine g_get C hinX5 0 rfl rfl 30 (by decide) (by decide +kernel) rfl rfl dX5_block_170 ?_
          refine g_iload_n C dX5_block_173 rfl 6 rfl ?_
          refine g_bipush (v := nI 16) C dX5_block_174 (by decide) ?_
          refine g_isub_n C dX5_block_176 (by omega) ?_
          refine g_iald C 3 rfl (by omega) (by decide) dX5_block_177 ?_
          refine g_iadd C dX5_block_178 ?_
          refine g_iast (w2 := [(a 0, oM a th (bI wk) ro (nI lo) (nI ne) (nI di) (bI ta) (nI ce) (nI fo) (nI bt)), (a 10, gI g 64 rd), (a 30, gI g 128 tx), (a 31, gI g 64 (va_up (it sprM (wdI tx f wo 16) t) (16 + t) ((((((mR ((it sprM (wdI tx f wo 16) t) ((16 + t) - 2)) 17) ^^^ (mR ((it sprM (wdI tx f wo 16) t) ((16 + t) - 2)) 19)) ^^^ ((Int32.toUInt32 ((it sprM (wdI tx f wo 16) t) ((16 + t) - 2)) >>> (Int32.toUInt32 (nI 10) &&& Int32.toUInt32 31)).toInt32)) + ((it sprM (wdI tx f wo 16) t) ((16 + t) - 7))) + (((mR ((it sprM (wdI tx f wo 16) t) ((16 + t) - 15)) 7) ^^^ (mR ((it sprM (wdI tx f wo 16) t) ((16 + t) - 15)) 18)) ^^^ ((Int32.toUInt32 ((it sprM (wdI tx f wo 16) t) ((16 + t) - 15)) >>> (Int32.toUInt32 (nI 3) &&& Int32.toUInt32 31)).toInt32))) + ((it sprM (wdI tx f wo 16) t) ((16 + t) - 16))))), (a 32, gI g 8 ch), (a 33, gI g 8 wr)]) C 3 rfl (by omega) (by decide) rfl dX5_block_179 ?_
          refine g_iinc_n (d := 1) (L' := [(2, .int (nI ((16 + t) + 1))), (6, .int (((mR ((it sprM (wdI tx f wo 16) t) ((16 + t) - 2)) 17) ^^^ (mR ((it sprM (wdI tx f wo 16) t) ((16 + t) - 2)) 19)) ^^^ ((Int32.toUInt32 ((it sprM (wdI tx f wo 16) t) ((16 + t) - 2)) >>> (Int32.toUInt32 (nI 10) &&& Int32.toUInt32 31)).toInt32))), (5, .int (((mR ((it sprM (wdI tx f wo 16) t) ((16 + t) - 15)) 7) ^^^ (mR ((it sprM (wdI tx f wo 16) t) ((16 + t) - 15)) 18)) ^^^ ((Int32.toUInt32 ((it sprM (wdI tx f wo 16) t) ((16 + t) - 15)) >>> (Int32.toUInt32 (nI 3) &&& Int32.toUInt32 31)).toInt32))), (4, .int ((it sprM (wdI tx f wo 16) t) ((16 + t) - 2))), (3, .int ((it sprM (wdI tx f wo 16) t) ((16 + t) - 15))), (0, .ref (a 0)), (1, .int (nI f))]) C dX5_block_180 6 rfl (by decide) (by decide) rfl ?_
          refine g_goto (tgt := 81) C dX5_block_183 (by decide) ?_
          refine g_L (L2 := [(0, .ref (a 0)), (1, .int (nI f)), (2, .int (nI ((16 + t) + 1)))]) [5, 6, 0] rfl ?_
          exact iht (trivial)
    · skip
      exfalso; omega
  · intro t hlt hut hPt iht
    try dsimp only at iht ⊢
    refine g_iload_n C dX5_block_2 rfl 0 rfl ?_
    refine g_bipush (v := nI 16) C dX5_block_3 (by decide) ?_
    refine g_icmp_ge_n (tgt := 78) C dX5_block_5 (by decide) (by omega) (by omega) (fun c5 => ?_) (fun c5 => ?_)
    · skip
      exfalso; omega
    · skip
      refine g_aload_n C dX5_block_8 rfl 1 rfl ?_
      refine g_get C hinX5 0 rfl rfl 30 (by decide) (by decide +kernel) rfl rfl dX5_block_9 ?_
      refine g_iload_n C dX5_block_12 rfl 0 rfl ?_
      refine g_aload_n C dX5_block_13 rfl 1 rfl ?_
      refine g_get C hinX5 0 rfl rfl 29 (by decide) (by decide +kernel) rfl rfl dX5_block_14 ?_
      refine g_iload_n C dX5_block_17 rfl 2 rfl ?_
      refine g_iconst (v := nI 4) C dX5_block_18 (by decide) ?_
      refine g_iload_n C dX5_block_19 rfl 0 rfl ?_
      refine g_imul_n C dX5_block_20 ?_
      refine g_iadd_n C dX5_block_21 ?_
      refine g_iald C 2 rfl (by omega) (by decide) dX5_block_22 ?_
      refine g_bipush (v := nI 24) C dX5_block_23 (by decide) ?_
      refine g_ishl C dX5_block_25 ?_
      refine g_aload_n C dX5_block_26 rfl 1 rfl ?_
      refine g_get C hinX5 0 rfl rfl 29 (by decide) (by decide +kernel) rfl rfl dX5_block_27 ?_
      refine g_iload_n C dX5_block_30 rfl 2 rfl ?_
      refine g_iconst (v := nI 4) C dX5_block_31 (by decide) ?_
      refine g_iload_n C dX5_block_32 rfl 0 rfl ?_
      refine g_imul_n C dX5_block_33 ?_
      refine g_iadd_n C dX5_block_34 ?_
      refine g_iconst (v := nI 1) C dX5_block_35 (by decide) ?_
      refine g_iadd_n C dX5_block_36 ?_
      refine g_iald C 2 rfl (by omega) (by decide) dX5_block_37 ?_
      refine g_bipush (v := nI 16) C dX5_block_38 (by decide) ?_
      refine g_ishl C dX5_block_40 ?_
      refine g_ior C dX5_block_41 ?_
      refine g_aload_n C dX5_block_42 rfl 1 rfl ?_
      refine g_get C hinX5 0 rfl rfl 29 (by decide) (by decide +kernel) rfl rfl dX5_block_43 ?_
      refine g_iload_n C dX5_block_46 rfl 2 rfl ?_
      refine g_iconst (v := nI 4) C dX5_block_47 (by decide) ?_
      refine g_iload_n C dX5_block_48 rfl 0 rfl ?_
      refine g_imul_n C dX5_block_49 ?_
      refine g_iadd_n C dX5_block_50 ?_
      refine g_iconst (v := nI 2) C dX5_block_51 (by decide) ?_
      refine g_iadd_n C dX5_block_52 ?_
      refine g_iald C 2 rfl (by omega) (by decide) dX5_block_53 ?_
      refine g_bipush (v := nI 8) C dX5_block_54 (by decide) ?_
      refine g_ishl C dX5_block_56 ?_
      refine g_ior C dX5_block_57 ?_
      refine g_aload_n C dX5_block_58 rfl 1 rfl ?_
      refine g_get C hinX5 0 rfl rfl 29 (by decide) (by decide +kernel) rfl rfl dX5_block_59 ?_
      refine g_iload_n C dX5_block_62 rfl 2 rfl ?_
      refine g_iconst (v := nI 4) C dX5_block_63 (by decide) ?_
      refine g_iload_n C dX5_block_64 rfl 0 rfl ?_
      refine g_imul_n C dX5_block_65 ?_
      refine g_iadd_n C dX5_block_66 ?_
      refine g_iconst (v := nI 3) C dX5_block_67 (by decide) ?_
      refine g_iadd_n C dX5_block_68 ?_
      refine g_iald C 2 rfl (by omega) (by decide) dX5_block_69 ?_
      refine g_ior C dX5_block_70 ?_
      refine g_iast (w2 := [(a 0, oM a th (bI wk) ro (nI lo) (nI ne) (nI di) (bI ta) (nI ce) (nI fo) (nI bt)), (a 10, gI g 64 rd), (a 30, gI g 128 tx), (a 31, gI g 64 (va_up (wdI tx f wo t) t (((((tx (f + (4 * t))) <<< ((nI 24) &&& 31)) ||| ((tx ((f + (4 * t)) + 1)) <<< ((nI 16) &&& 31))) ||| ((tx ((f + (4 * t)) + 2)) <<< ((nI 8) &&& 31))) ||| (tx ((f + (4 * t)) + 3))))), (a 32, gI g 8 ch), (a 33, gI g 8 wr)]) C 3 rfl (by omega) (by decide) rfl dX5_block_71 ?_
      refine g_iinc_n (d := 1) (L' := [(2, .int (nI (t + 1))), (0, .ref (a 0)), (1, .int (nI f))]) C dX5_block_72 0 rfl (by decide) (by decide) rfl ?_
      refine g_goto (tgt := 2) C dX5_block_75 (by decide) ?_
      exact iht (trivial)
set_option maxHeartbeats 4000000 in
set_option maxRecDepth 100000 in
theorem c_X5_digestTo (l : Launch) (g : gE) (a : Nat → Nat) (th : Int32) (wk : Bool) (ro : Int32) (lo ne di : Nat) (ta : Bool) (ce fo bt : Nat) (dg : Nat → Int32) (rd : Nat → Int32) (tx : Nat → Int32) (wo : Nat → Int32) (ch : Nat → Int32) (wr : Nat → Int32) (q : Nat) (hb : bt ≤ 80) (hq : q + 32 ≤ 4096) : Kt l g yX5_digestTo wsX5_digestTo 2 48 0 0 [.ref (a 0), .int (nI q)] [(a 0, oM a th (bI wk) ro (nI lo) (nI ne) (nI di) (bI ta) (nI ce) (nI fo) (nI bt)), (a 8, gI g 4096 dg), (a 10, gI g 64 rd), (a 30, gI g 128 tx), (a 31, gI g 64 wo), (a 32, gI g 8 ch), (a 33, gI g 8 wr)] (kR none [(a 0, oM a th (bI wk) ro (nI lo) (nI ne) (nI di) (bI ta) (nI ce) (nI fo) (nI (bt + 1 + zN bt + 6 + 1 + 1))), (a 8, gI g 4096 (dgB q dg (dgM rd bt tx (ch, wo, wr)).1 32)), (a 10, gI g 64 rd), (a 30, gI g 128 (padT bt tx)), (a 31, gI g 64 ((dgM rd bt tx (ch, wo, wr)).2.1)), (a 32, gI g 8 ((dgM rd bt tx (ch, wo, wr)).1)), (a 33, gI g 8 ((dgM rd bt tx (ch, wo, wr)).2.2))]) := by
  have hinX5 : ∀ w ∈ wsX50, w ∈ wsX5_digestTo := by
    intro w h
    unfold wsX5_digestTo
    simp only [List.mem_cons, List.mem_append]
    simp only [h, or_true, true_or]
  refine g_enter (cc := cX5_digestTo) (maxL := 4) (ret := none) (own := RX5) (L := [(0, .ref (a 0)), (1, .int (nI q))]) (by decide) rfl rfl (Nat.le_of_ble_eq_true rfl) rfl ?_
  intro p e s m args below meth c hin0 C
  have hz := zN_ok bt
  have hz4 : bt + 1 + zN bt + 8 ≤ 128 := by unfold zN; omega
  refine g_aload_n C dX5_digestTo_0 rfl 0 rfl ?_
  refine g_get C hinX5 0 rfl rfl 28 (by decide) (by decide +kernel) rfl rfl dX5_digestTo_1 ?_
  refine g_istore_n (L' := [(2, .int (nI bt)), (0, .ref (a 0)), (1, .int (nI q))]) C dX5_digestTo_4 rfl (by decide) rfl ?_
  refine g_aload_n C dX5_digestTo_5 rfl 1 rfl ?_
  refine g_sipush (v := nI 128) C dX5_digestTo_6 (by decide) ?_
  refine g_callV0 (wr := [(a 8, gI g 4096 dg), (a 10, gI g 64 rd), (a 31, gI g 64 wo), (a 32, gI g 8 ch), (a 33, gI g 8 wr)]) (w2 := [(a 8, gI g 4096 dg), (a 10, gI g 64 rd), (a 31, gI g 64 wo), (a 32, gI g 8 ch), (a 33, gI g 8 wr), (a 0, oM a th (bI wk) ro (nI lo) (nI ne) (nI di) (bI ta) (nI ce) (nI fo) (nI (bt + 1))), (a 30, gI g 128 (va_up tx bt ((nI 128) &&& nI 255)))]) C (c_X5_put l g a th wk ro lo ne di ta ce fo bt tx (nI 128) (by omega)) (cwV 1 C.2.2.2.2.1 gX5_digestTo_X5_put rfl rfl rfl (by decide +kernel) ⟨Nat.le_of_ble_eq_true rfl, Nat.le_of_ble_eq_true rfl⟩) 0 rfl rfl rfl [0, 3] [1, 2, 4, 5, 6] rfl rfl rfl rfl rfl (by decide) rfl rfl (Nat.le_of_ble_eq_true rfl) dX5_digestTo_9 ⟨Nat.le_of_ble_eq_true rfl, Nat.le_of_ble_eq_true rfl⟩ rfl ?_
  refine g_up (zN bt) 0 (fun _ => True) (fun j => [(2, .int (nI bt)), (0, .ref (a 0)), (1, .int (nI q))]) (fun j => [(a 8, gI g 4096 dg), (a 10, gI g 64 rd), (a 31, gI g 64 wo), (a 32, gI g 8 ch), (a 33, gI g 8 wr), (a 0, oM a th (bI wk) ro (nI lo) (nI ne) (nI di) (bI ta) (nI ce) (nI fo) (nI (bt + 1 + j))), (a 30, gI g 128 (pad1 bt tx j))]) (by omega) (trivial) ?_ ?_
  · intro hPj
    try dsimp only
    refine g_aload_n C dX5_digestTo_12 rfl 1 rfl ?_
    refine g_get C hinX5 5 rfl rfl 28 (by decide) (by decide +kernel) rfl rfl dX5_digestTo_13 ?_
    refine g_bipush (v := nI 64) C dX5_digestTo_16 (by decide) ?_
    refine g_irem_n C dX5_digestTo_18 (by omega) (by omega) (by omega) ?_
    refine g_bipush (v := nI 56) C dX5_digestTo_19 (by decide) ?_
    refine g_icmp_eq_n (tgt := 32) C dX5_digestTo_21 (by decide) (by omega) (by omega) (fun c21 => ?_) (fun c21 => ?_)
    · skip
      refine g_iconst (v := nI 0) C dX5_digestTo_32 (by decide) ?_
      refine g_istore_n (L' := [(3, .int (nI 0)), (2, .int (nI bt)), (0, .ref (a 0)), (1, .int (nI q))]) C dX5_digestTo_33 rfl (by decide) rfl ?_
      refine g_up 6 0 (fun _ => True) (fun j => [(3, .int (nI j)), (2, .int (nI bt)), (0, .ref (a 0)), (1, .int (nI q))]) (fun j => [(a 8, gI g 4096 dg), (a 10, gI g 64 rd), (a 31, gI g 64 wo), (a 32, gI g 8 ch), (a 33, gI g 8 wr), (a 0, oM a th (bI wk) ro (nI lo) (nI ne) (nI di) (bI ta) (nI ce) (nI fo) (nI (bt + 1 + zN bt + j))), (a 30, gI g 128 (pad2 bt tx j))]) (by omega) (trivial) ?_ ?_
      · intro hPj
        try dsimp only
        refine g_iload_n C dX5_digestTo_34 rfl 0 rfl ?_
        refine g_bipush (v := nI 6) C dX5_digestTo_35 (by decide) ?_
        refine g_icmp_ge_n (tgt := 51) C dX5_digestTo_37 (by decide) (by omega) (by omega) (fun c37 => ?_) (fun c37 => ?_)
        · skip
          refine g_aload_n C dX5_digestTo_51 rfl 2 rfl ?_
          refine g_bipush (v := nI 8) C dX5_digestTo_52 (by decide) ?_
          refine g_iload_n C dX5_digestTo_54 rfl 1 rfl ?_
          refine g_imul_n C dX5_digestTo_55 ?_
          refine g_bipush (v := nI 8) C dX5_digestTo_56 (by decide) ?_
          refine g_ishr C dX5_digestTo_58 ?_
          refine g_callV0 (wr := [(a 8, gI g 4096 dg), (a 10, gI g 64 rd), (a 31, gI g 64 wo), (a 32, gI g 8 ch), (a 33, gI g 8 wr)]) (w2 := [(a 8, gI g 4096 dg), (a 10, gI g 64 rd), (a 31, gI g 64 wo), (a 32, gI g 8 ch), (a 33, gI g 8 wr), (a 0, oM a th (bI wk) ro (nI lo) (nI ne) (nI di) (bI ta) (nI ce) (nI fo) (nI ((bt + 1 + zN bt + 6) + 1))), (a 30, gI g 128 (va_up (pad2 bt tx 6) (bt + 1 + zN bt + 6) (((nI (8 * bt)) >>> ((nI 8) &&& 31)) &&& nI 255)))]) C (c_X5_put l g a th wk ro lo ne di ta ce fo (bt + 1 + zN bt + 6) (pad2 bt tx 6) ((nI (8 * bt)) >>> ((nI 8) &&& 31)) (by omega)) (cwV 1 C.2.2.2.2.1 gX5_digestTo_X5_put rfl rfl rfl (by decide +kernel) ⟨Nat.le_of_ble_eq_true rfl, Nat.le_of_ble_eq_true rfl⟩) 5 rfl rfl rfl [5, 6] [0, 1, 2, 3, 4] rfl rfl rfl rfl rfl (by decide) rfl rfl (Nat.le_of_ble_eq_true rfl) dX5_digestTo_59 ⟨Nat.le_of_ble_eq_true rfl, Nat.le_of_ble_eq_true rfl⟩ rfl ?_
          refine g_aload_n C dX5_digestTo_62 rfl 2 rfl ?_
          refine g_bipush (v := nI 8) C dX5_digestTo_63 (by decide) ?_
          refine g_iload_n C dX5_digestTo_65 rfl 1 rfl ?_
          refine g_imul_n C dX5_digestTo_66 ?_
          refine g_callV0 (wr := [(a 8, gI g 4096 dg), (a 10, gI g 64 rd), (a 31, gI g 64 wo), (a 32, gI g 8 ch), (a 33, gI g 8 wr)]) (w2 := [(a 8, gI g 4096 dg), (a 10, gI g 64 rd), (a 31, gI g 64 wo), (a 32, gI g 8 ch), (a 33, gI g 8 wr), (a 0, oM a th (bI wk) ro (nI lo) (nI ne) (nI di) (bI ta) (nI ce) (nI fo) (nI (((bt + 1 + zN bt + 6) + 1) + 1))), (a 30, gI g 128 (va_up (va_up (pad2 bt tx 6) (bt + 1 + zN bt + 6) (((nI (8 * bt)) >>> ((nI 8) &&& 31)) &&& nI 255)) ((bt + 1 + zN bt + 6) + 1) ((nI (8 * bt)) &&& nI 255)))]) C (c_X5_put l g a th wk ro lo ne di ta ce fo ((bt + 1 + zN bt + 6) + 1) (va_up (pad2 bt tx 6) (bt + 1 + zN bt + 6) (((nI (8 * bt)) >>> ((nI 8) &&& 31)) &&& nI 255)) (nI (8 * bt)) (by omega)) (cwV 1 C.2.2.2.2.1 gX5_digestTo_X5_put rfl rfl rfl (by decide +kernel) ⟨Nat.le_of_ble_eq_true rfl, Nat.le_of_ble_eq_true rfl⟩) 5 rfl rfl rfl [5, 6] [0, 1, 2, 3, 4] rfl rfl rfl rfl rfl (by decide) rfl rfl (Nat.le_of_ble_eq_true rfl) dX5_digestTo_67 ⟨Nat.le_of_ble_eq_true rfl, Nat.le_of_ble_eq_true rfl⟩ rfl ?_
          refine g_aload_n C dX5_digestTo_70 rfl 2 rfl ?_
          refine g_get C hinX5 5 rfl rfl 31 (by decide) (by decide +kernel) rfl rfl dX5_digestTo_71 ?_
          refine g_iconst (v := nI 0) C dX5_digestTo_74 (by decide) ?_
          refine g_ldc (v := 1779033703) C (by decide +kernel) dX5_digestTo_75 ?_
          refine g_iast (w2 := [(a 8, gI g 4096 dg), (a 10, gI g 64 rd), (a 31, gI g 64 wo), (a 32, gI g 8 (va_up ch 0 (1779033703 : Int32))), (a 33, gI g 8 wr), (a 0, oM a th (bI wk) ro (nI lo) (nI ne) (nI di) (bI ta) (nI ce) (nI fo) (nI (((bt + 1 + zN bt + 6) + 1) + 1))), (a 30, gI g 128 (va_up (va_up (pad2 bt tx 6) (bt + 1 + zN bt + 6) (((nI (8 * bt)) >>> ((nI 8) &&& 31)) &&& nI 255)) ((bt + 1 + zN bt + 6) + 1) ((nI (8 * bt)) &&& nI 255)))]) C 3 rfl (by omega) (by decide) rfl dX5_digestTo_77 ?_
          refine g_aload_n C dX5_digestTo_78 rfl 2 rfl ?_
          refine g_get C hinX5 5 rfl rfl 31 (by decide) (by decide +kernel) rfl rfl dX5_digestTo_79 ?_
          refine g_iconst (v := nI 1) C dX5_digestTo_82 (by decide) ?_
          refine g_ldc (v := -1150833019) C (by decide +kernel) dX5_digestTo_83 ?_
          refine g_iast (w2 := [(a 8, gI g 4096 dg), (a 10, gI g 64 rd), (a 31, gI g 64 wo), (a 32, gI g 8 (va_up (va_up ch 0 (1779033703 : Int32)) 1 (-1150833019 : Int32))), (a 33, gI g 8 wr), (a 0, oM a th (bI wk) ro (nI lo) (nI ne) (nI di) (bI ta) (nI ce) (nI fo) (nI (((bt + 1 + zN bt + 6) + 1) + 1))), (a 30, gI g 128 (va_up (va_up (pad2 bt tx 6) (bt + 1 + zN bt + 6) (((nI (8 * bt)) >>> ((nI 8) &&& 31)) &&& nI 255)) ((bt + 1 + zN bt + 6) + 1) ((nI (8 * bt)) &&& nI 255)))]) C 3 rfl (by omega) (by decide) rfl dX5_digestTo_85 ?_
          refine g_aload_n C dX5_digestTo_86 rfl 2 rfl ?_
          refine g_get C hinX5 5 rfl rfl 31 (by decide) (by decide +kernel) rfl rfl dX5_digestTo_87 ?_
          refine g_iconst (v := nI 2) C dX5_digestTo_90 (by decide) ?_
          refine g_ldc (v := 1013904242) C (by decide +kernel) dX5_digestTo_91 ?_
          refine g_iast (w2 := [(a 8, gI g 4096 dg), (a 10, gI g 64 rd), (a 31, gI g 64 wo), (a 32, gI g 8 (va_up (va_up (va_up ch 0 (1779033703 : Int32)) 1 (-1150833019 : Int32)) 2 (1013904242 : Int32))), (a 33, gI g 8 wr), (a 0, oM a th (bI wk) ro (nI lo) (nI ne) (nI di) (bI ta) (nI ce) (nI fo) (nI (((bt + 1 + zN bt + 6) + 1) + 1))), (a 30, gI g 128 (va_up (va_up (pad2 bt tx 6) (bt + 1 + zN bt + 6) (((nI (8 * bt)) >>> ((nI 8) &&& 31)) &&& nI 255)) ((bt + 1 + zN bt + 6) + 1) ((nI (8 * bt)) &&& nI 255)))]) C 3 rfl (by omega) (by decide) rfl dX5_digestTo_93 ?_
          refine g_aload_n C dX5_digestTo_94 rfl 2 rfl ?_
          refine g_get C hinX5 5 rfl rfl 31 (by decide) (by decide +kernel) rfl rfl dX5_digestTo_95 ?_
          refine g_iconst (v := nI 3) C dX5_digestTo_98 (by decide) ?_
          refine g_ldc (v := -1521486534) C (by decide +kernel) dX5_digestTo_99 ?_
          refine g_iast (w2 := [(a 8, gI g 4096 dg), (a 10, gI g 64 rd), (a 31, gI g 64 wo), (a 32, gI g 8 (va_up (va_up (va_up (va_up ch 0 (1779033703 : Int32)) 1 (-1150833019 : Int32)) 2 (1013904242 : Int32)) 3 (-1521486534 : Int32))), (a 33, gI g 8 wr), (a 0, oM a th (bI wk) ro (nI lo) (nI ne) (nI di) (bI ta) (nI ce) (nI fo) (nI (((bt + 1 + zN bt + 6) + 1) + 1))), (a 30, gI g 128 (va_up (va_up (pad2 bt tx 6) (bt + 1 + zN bt + 6) (((nI (8 * bt)) >>> ((nI 8) &&& 31)) &&& nI 255)) ((bt + 1 + zN bt + 6) + 1) ((nI (8 * bt)) &&& nI 255)))]) C 3 rfl (by omega) (by decide) rfl dX5_digestTo_101 ?_
          refine g_aload_n C dX5_digestTo_102 rfl 2 rfl ?_
          refine g_get C hinX5 5 rfl rfl 31 (by decide) (by decide +kernel) rfl rfl dX5_digestTo_103 ?_
          refine g_iconst (v := nI 4) C dX5_digestTo_106 (by decide) ?_
          refine g_ldc (v := 1359893119) C (by decide +kernel) dX5_digestTo_107 ?_
          refine g_iast (w2 := [(a 8, gI g 4096 dg), (a 10, gI g 64 rd), (a 31, gI g 64 wo), (a 32, gI g 8 (va_up (va_up (va_up (va_up (va_up ch 0 (1779033703 : Int32)) 1 (-1150833019 : Int32)) 2 (1013904242 : Int32)) 3 (-1521486534 : Int32)) 4 (1359893119 : Int32))), (a 33, gI g 8 wr), (a 0, oM a th (bI wk) ro (nI lo) (nI ne) (nI di) (bI ta) (nI ce) (nI fo) (nI (((bt + 1 + zN bt + 6) + 1) + 1))), (a 30, gI g 128 (va_up (va_up (pad2 bt tx 6) (bt + 1 + zN bt + 6) (((nI (8 * bt)) >>> ((nI 8) &&& 31)) &&& nI 255)) ((bt + 1 + zN bt + 6) + 1) ((nI (8 * bt)) &&& nI 255)))]) C 3 rfl (by omega) (by decide) rfl dX5_digestTo_109 ?_
          refine g_aload_n C dX5_digestTo_110 rfl 2 rfl ?_
          refine g_get C hinX5 5 rfl rfl 31 (by decide) (by decide +kernel) rfl rfl dX5_digestTo_111 ?_
          refine g_iconst (v := nI 5) C dX5_digestTo_114 (by decide) ?_
          refine g_ldc (v := -1694144372) C (by decide +kernel) dX5_digestTo_115 ?_
          refine g_iast (w2 := [(a 8, gI g 4096 dg), (a 10, gI g 64 rd), (a 31, gI g 64 wo), (a 32, gI g 8 (va_up (va_up (va_up (va_up (va_up (va_up ch 0 (1779033703 : Int32)) 1 (-1150833019 : Int32)) 2 (1013904242 : Int32)) 3 (-1521486534 : Int32)) 4 (1359893119 : Int32)) 5 (-1694144372 : Int32))), (a 33, gI g 8 wr), (a 0, oM a th (bI wk) ro (nI lo) (nI ne) (nI di) (bI ta) (nI ce) (nI fo) (nI (((bt + 1 + zN bt + 6) + 1) + 1))), (a 30, gI g 128 (va_up (va_up (pad2 bt tx 6) (bt + 1 + zN bt + 6) (((nI (8 * bt)) >>> ((nI 8) &&& 31)) &&& nI 255)) ((bt + 1 + zN bt + 6) + 1) ((nI (8 * bt)) &&& nI 255)))]) C 3 rfl (by omega) (by decide) rfl dX5_digestTo_117 ?_
          refine g_aload_n C dX5_digestTo_118 rfl 2 rfl ?_
          refine g_get C hinX5 5 rfl rfl 31 (by decide) (by decide +kernel) rfl rfl dX5_digestTo_119 ?_
          refine g_bipush (v := nI 6) C dX5_digestTo_122 (by decide) ?_
          refine g_ldc (v := 528734635) C (by decide +kernel) dX5_digestTo_124 ?_
          refine g_iast (w2 := [(a 8, gI g 4096 dg), (a 10, gI g 64 rd), (a 31, gI g 64 wo), (a 32, gI g 8 (va_up (va_up (va_up (va_up (va_up (va_up (va_up ch 0 (1779033703 : Int32)) 1 (-1150833019 : Int32)) 2 (1013904242 : Int32)) 3 (-1521486534 : Int32)) 4 (1359893119 : Int32)) 5 (-1694144372 : Int32)) 6 (528734635 : Int32))), (a 33, gI g 8 wr), (a 0, oM a th (bI wk) ro (nI lo) (nI ne) (nI di) (bI ta) (nI ce) (nI fo) (nI (((bt + 1 + zN bt + 6) + 1) + 1))), (a 30, gI g 128 (va_up (va_up (pad2 bt tx 6) (bt + 1 + zN bt + 6) (((nI (8 * bt)) >>> ((nI 8) &&& 31)) &&& nI 255)) ((bt + 1 + zN bt + 6) + 1) ((nI (8 * bt)) &&& nI 255)))]) C 3 rfl (by omega) (by decide) rfl dX5_digestTo_126 ?_
          refine g_aload_n C dX5_digestTo_127 rfl 2 rfl ?_
          refine g_get C hinX5 5 rfl rfl 31 (by decide) (by decide +kernel) rfl rfl dX5_digestTo_128 ?_
          refine g_bipush (v := nI 7) C dX5_digestTo_131 (by decide) ?_
          refine g_ldc (v := 1541459225) C (by decide +kernel) dX5_digestTo_133 ?_
          refine g_iast (w2 := [(a 8, gI g 4096 dg), (a 10, gI g 64 rd), (a 31, gI g 64 wo), (a 32, gI g 8 (va_up (va_up (va_up (va_up (va_up (va_up (va_up (va_up ch 0 (1779033703 : Int32)) 1 (-1150833019 : Int32)) 2 (1013904242 : Int32)) 3 (-1521486534 : Int32)) 4 (1359893119 : Int32)) 5 (-1694144372 : Int32)) 6 (528734635 : Int32)) 7 (1541459225 : Int32))), (a 33, gI g 8 wr), (a 0, oM a th (bI wk) ro (nI lo) (nI ne) (nI di) (bI ta) (nI ce) (nI fo) (nI (((bt + 1 + zN bt + 6) + 1) + 1))), (a 30, gI g 128 (va_up (va_up (pad2 bt tx 6) (bt + 1 + zN bt + 6) (((nI (8 * bt)) >>> ((nI 8) &&& 31)) &&& nI 255)) ((bt + 1 + zN bt + 6) + 1) ((nI (8 * bt)) &&& nI 255)))]) C 3 rfl (by omega) (by decide) rfl dX5_digestTo_135 ?_
          refine g_iconst (v := nI 0) C dX5_digestTo_136 (by decide) ?_
          refine g_istore_n (L' := [(3, .int (nI 0)), (2, .int (nI bt)), (0, .ref (a 0)), (1, .int (nI q))]) C dX5_digestTo_137 rfl (by decide) rfl ?_
          refine g_up (bkN bt) 0 (fun _ => True) (fun j => [(3, .int (nI (64 * j))), (2, .int (nI bt)), (0, .ref (a 0)), (1, .int (nI q))]) (fun j => [(a 8, gI g 4096 dg), (a 10, gI g 64 rd), (a 31, gI g 64 ((shaM (padT bt tx) rd (chI ch, wo, wr) j).2.1)), (a 32, gI g 8 ((shaM (padT bt tx) rd (chI ch, wo, wr) j).1)), (a 33, gI g 8 ((shaM (padT bt tx) rd (chI ch, wo, wr) j).2.2)), (a 0, oM a th (bI wk) ro (nI lo) (nI ne) (nI di) (bI ta) (nI ce) (nI fo) (nI (((bt + 1 + zN bt + 6) + 1) + 1))), (a 30, gI g 128 (va_up (va_up (pad2 bt tx 6) (bt + 1 + zN bt + 6) (((nI (8 * bt)) >>> ((nI 8) &&& 31)) &&& nI 255)) ((bt + 1 + zN bt + 6) + 1) ((nI (8 * bt)) &&& nI 255)))]) (by omega) (trivial) ?_ ?_
          · intro hPj
            try dsimp only
            have hb9 : 64 * bkN bt = bt + 1 + zN bt + 6 + 1 + 1 := by unfold bkN; omega
            refine g_iload_n C dX5_digestTo_138 rfl 0 rfl ?_
            refine g_aload_n C dX5_digestTo_139 rfl 2 rfl ?_
            refine g_get C hinX5 5 rfl rfl 28 (by decide) (by decide +kernel) rfl rfl dX5_digestTo_140 ?_
            refine g_icmp_ge_n (tgt := 157) C dX5_digestTo_143 (by decide) (by omega) (by omega) (fun c143 => ?_) (fun c143 => ?_)
            · skip
              refine g_iconst (v := nI 0) C dX5_digestTo_157 (by decide) ?_
              refine g_istore_n (L' := [(3, .int (nI 0)), (2, .int (nI bt)), (0, .ref (a 0)), (1, .int (nI q))]) C dX5_digestTo_158 rfl (by decide) rfl ?_
              refine g_up 32 0 (fun _ => True) (fun j => [(3, .int (nI j)), (2, .int (nI bt)), (0, .ref (a 0)), (1, .int (nI q))]) (fun j => [(a 8, gI g 4096 (dgB q dg (dgM rd bt tx (ch, wo, wr)).1 j)), (a 10, gI g 64 rd), (a 31, gI g 64 ((shaM (padT bt tx) rd (chI ch, wo, wr) (bkN bt)).2.1)), (a 32, gI g 8 ((shaM (padT bt tx) rd (chI ch, wo, wr) (bkN bt)).1)), (a 33, gI g 8 ((shaM (padT bt tx) rd (chI ch, wo, wr) (bkN bt)).2.2)), (a 0, oM a th (bI wk) ro (nI lo) (nI ne) (nI di) (bI ta) (nI ce) (nI fo) (nI (((bt + 1 + zN bt + 6) + 1) + 1))), (a 30, gI g 128 (va_up (va_up (pad2 bt tx 6) (bt + 1 + zN bt + 6) (((nI (8 * bt)) >>> ((nI 8) &&& 31)) &&& nI 255)) ((bt + 1 + zN bt + 6) + 1) ((nI (8 * bt)) &&& nI 255)))]) (by omega) (trivial) ?_ ?_
              · intro hPj
                try dsimp only
                refine g_iload_n C dX5_digestTo_159 rfl 0 rfl ?_
                refine g_bipush (v := nI 32) C dX5_digestTo_160 (by decide) ?_
                refine g_icmp_ge_n (tgt := 201) C dX5_digestTo_162 (by decide) (by omega) (by omega) (fun c162 => ?_) (fun c162 => ?_)
                · skip
                  refine g_perm (w2 := [(a 0, oM a th (bI wk) ro (nI lo) (nI ne) (nI di) (bI ta) (nI ce) (nI fo) (nI (((bt + 1 + zN bt + 6) + 1) + 1))), (a 8, gI g 4096 (dgB q dg (dgM rd bt tx (ch, wo, wr)).1 32)), (a 10, gI g 64 rd), (a 30, gI g 128 (va_up (va_up (pad2 bt tx 6) (bt + 1 + zN bt + 6) (((nI (8 * bt)) >>> ((nI 8) &&& 31)) &&& nI 255)) ((bt + 1 + zN bt + 6) + 1) ((nI (8 * bt)) &&& nI 255))), (a 31, gI g 64 ((shaM (padT bt tx) rd (chI ch, wo, wr) (bkN bt)).2.1)), (a 32, gI g 8 ((shaM (padT bt tx) rd (chI ch, wo, wr) (bkN bt)).1)), (a 33, gI g 8 ((shaM (padT bt tx) rd (chI ch, wo, wr) (bkN bt)).2.2))]) [5, 0, 1, 6, 2, 3, 4] rfl rfl rfl ?_
                  refine g_vret C dX5_digestTo_201 (by decide) (by decide) ?_
                  exact ⟨rfl, rfl⟩
                · skip
                  exfalso; omega
              · intro j hlj huj hPj ihj
                try dsimp only at ihj ⊢
                refine g_iload_n C dX5_digestTo_159 rfl 0 rfl ?_
                refine g_bipush (v := nI 32) C dX5_digestTo_160 (by decide) ?_
                refine g_icmp_ge_n (tgt := 201) C dX5_digestTo_162 (by decide) (by omega) (by omega) (fun c162 => ?_) (fun c162 => ?_)
                · skip
                  exfalso; omega
                · skip
                  refine g_aload_n C dX5_digestTo_165 rfl 2 rfl ?_
                  refine g_get C hinX5 5 rfl rfl 7 (by decide) (by decide +kernel) rfl rfl dX5_digestTo_166 ?_
                  refine g_iload_n C dX5_digestTo_169 rfl 3 rfl ?_
                  refine g_iload_n C dX5_digestTo_170 rfl 0 rfl ?_
                  refine g_iadd_n C dX5_digestTo_171 ?_
                  refine g_aload_n C dX5_digestTo_172 rfl 2 rfl ?_
                  refine g_get C hinX5 5 rfl rfl 31 (by decide) (by decide +kernel) rfl rfl dX5_digestTo_173 ?_
                  refine g_iload_n C dX5_digestTo_176 rfl 0 rfl ?_
                  refine g_iconst (v := nI 4) C dX5_digestTo_177 (by decide) ?_
                  refine g_idiv_n C dX5_digestTo_178 (by omega) (by omega) (by omega) ?_
                  refine g_iald C 3 rfl (by omega) (by decide) dX5_digestTo_179 ?_
                  refine g_bipush (v := nI 24) C dX5_digestTo_180 (by decide) ?_
                  refine g_bipush (v := nI 8) C dX5_digestTo_182 (by decide) ?_
                  refine g_iload_n C dX5_digestTo_184 rfl 0 rfl ?_
                  refine g_iconst (v := nI 4) C dX5_digestTo_185 (by decide) ?_
                  refine g_irem_n C dX5_digestTo_186 (by omega) (by omega) (by omega) ?_
                  refine g_imul_n C dX5_digestTo_187 ?_
                  refine g_isub_n C dX5_digestTo_188 (by omega) ?_
                  refine g_ishr C dX5_digestTo_189 ?_
                  refine g_sipush (v := nI 255) C dX5_digestTo_190 (by decide) ?_
                  refine g_iand C dX5_digestTo_193 ?_
                  refine g_iast (w2 := [(a 8, gI g 4096 (va_up (dgB q dg (dgM rd bt tx (ch, wo, wr)).1 j) (q + j) (((((shaM (padT bt tx) rd (chI ch, wo, wr) (bkN bt)).1) (j / 4)) >>> ((nI (24 - (8 * (j % 4)))) &&& 31)) &&& (nI 255)))), (a 10, gI g 64 rd), (a 31, gI g 64 ((shaM (padT bt tx) rd (chI ch, wo, wr) (bkN bt)).2.1)), (a 32, gI g 8 ((shaM (padT bt tx) rd (chI ch, wo, wr) (bkN bt)).1)), (a 33, gI g 8 ((shaM (padT bt tx) rd (chI ch, wo, wr) (bkN bt)).2.2)), (a 0, oM a th (bI wk) ro (nI lo) (nI ne) (nI di) (bI ta) (nI ce) (nI fo) (nI (((bt + 1 + zN bt + 6) + 1) + 1))), (a 30, gI g 128 (va_up (va_up (pad2 bt tx 6) (bt + 1 + zN bt + 6) (((nI (8 * bt)) >>> ((nI 8) &&& 31)) &&& nI 255)) ((bt + 1 + zN bt + 6) + 1) ((nI (8 * bt)) &&& nI 255)))]) C 0 rfl (by omega) (by decide) rfl dX5_digestTo_194 ?_
                  refine g_iinc_n (d := 1) (L' := [(3, .int (nI (j + 1))), (2, .int (nI bt)), (0, .ref (a 0)), (1, .int (nI q))]) C dX5_digestTo_195 0 rfl (by decide) (by decide) rfl ?_
                  refine g_goto (tgt := 159) C dX5_digestTo_198 (by decide) ?_
                  exact ihj (trivial)
            · skip
              exfalso; omega
          · intro j hlj huj hPj ihj
            try dsimp only at ihj ⊢
            have hb9 : 64 * bkN bt = bt + 1 + zN bt + 6 + 1 + 1 := by unfold bkN; omega
            refine g_iload_n C dX5_digestTo_138 rfl 0 rfl ?_
            refine g_aload_n C dX5_digestTo_139 rfl 2 rfl ?_
            refine g_get C hinX5 5 rfl rfl 28 (by decide) (by decide +kernel) rfl rfl dX5_digestTo_140 ?_
            refine g_icmp_ge_n (tgt := 157) C dX5_digestTo_143 (by decide) (by omega) (by omega) (fun c143 => ?_) (fun c143 => ?_)
            · skip
              exfalso; omega
            · skip
              refine g_aload_n C dX5_digestTo_146 rfl 2 rfl ?_
              refine g_iload_n C dX5_digestTo_147 rfl 0 rfl ?_
              refine g_callV0 (wr := [(a 8, gI g 4096 dg)]) (w2 := [(a 8, gI g 4096 dg), (a 0, oM a th (bI wk) ro (nI lo) (nI ne) (nI di) (bI ta) (nI ce) (nI fo) (nI (((bt + 1 + zN bt + 6) + 1) + 1))), (a 10, gI g 64 rd), (a 30, gI g 128 (va_up (va_up (pad2 bt tx 6) (bt + 1 + zN bt + 6) (((nI (8 * bt)) >>> ((nI 8) &&& 31)) &&& nI 255)) ((bt + 1 + zN bt + 6) + 1) ((nI (8 * bt)) &&& nI 255))), (a 31, gI g 64 ((bkB (va_up (va_up (pad2 bt tx 6) (bt + 1 + zN bt + 6) (((nI (8 * bt)) >>> ((nI 8) &&& 31)) &&& nI 255)) ((bt + 1 + zN bt + 6) + 1) ((nI (8 * bt)) &&& nI 255)) rd (64 * j) (((shaM (padT bt tx) rd (chI ch, wo, wr) j).1), ((shaM (padT bt tx) rd (chI ch, wo, wr) j).2.1), ((shaM (padT bt tx) rd (chI ch, wo, wr) j).2.2))).2.1)), (a 32, gI g 8 ((bkB (va_up (va_up (pad2 bt tx 6) (bt + 1 + zN bt + 6) (((nI (8 * bt)) >>> ((nI 8) &&& 31)) &&& nI 255)) ((bt + 1 + zN bt + 6) + 1) ((nI (8 * bt)) &&& nI 255)) rd (64 * j) (((shaM (padT bt tx) rd (chI ch, wo, wr) j).1), ((shaM (padT bt tx) rd (chI ch, wo, wr) j).2.1), ((shaM (padT bt tx) rd (chI ch, wo, wr) j).2.2))).1)), (a 33, gI g 8 ((bkB (va_up (va_up (pad2 bt tx 6) (bt + 1 + zN bt + 6) (((nI (8 * bt)) >>> ((nI 8) &&& 31)) &&& nI 255)) ((bt + 1 + zN bt + 6) + 1) ((nI (8 * bt)) &&& nI 255)) rd (64 * j) (((shaM (padT bt tx) rd (chI ch, wo, wr) j).1), ((shaM (padT bt tx) rd (chI ch, wo, wr) j).2.1), ((shaM (padT bt tx) rd (chI ch, wo, wr) j).2.2))).2.2))]) C (c_X5_block l g a th wk ro lo ne di ta ce fo (((bt + 1 + zN bt + 6) + 1) + 1) rd (va_up (va_up (pad2 bt tx 6) (bt + 1 + zN bt + 6) (((nI (8 * bt)) >>> ((nI 8) &&& 31)) &&& nI 255)) ((bt + 1 + zN bt + 6) + 1) ((nI (8 * bt)) &&& nI 255)) ((shaM (padT bt tx) rd (chI ch, wo, wr) j).2.1) ((shaM (padT bt tx) rd (chI ch, wo, wr) j).1) ((shaM (padT bt tx) rd (chI ch, wo, wr) j).2.2) (64 * j) (by omega)) (cwV 1 C.2.2.2.2.1 gX5_digestTo_X5_block rfl rfl rfl (by decide +kernel) ⟨Nat.le_of_ble_eq_true rfl, Nat.le_of_ble_eq_true rfl⟩) 5 rfl rfl rfl [5, 1, 6, 2, 3, 4] [0] rfl rfl rfl rfl rfl (by decide) rfl rfl (Nat.le_of_ble_eq_true rfl) dX5_digestTo_148 ⟨Nat.le_of_ble_eq_true rfl, Nat.le_of_ble_eq_true rfl⟩ rfl ?_
              refine g_iinc_n (d := 64) (L' := [(3, .int (nI ((64 * j) + 64))), (2, .int (nI bt)), (0, .ref (a 0)), (1, .int (nI q))]) C dX5_digestTo_151 0 rfl (by decide) (by decide) rfl ?_
              refine g_goto (tgt := 138) C dX5_digestTo_154 (by decide) ?_
              refine g_perm (w2 := [(a 8, gI g 4096 dg), (a 10, gI g 64 rd), (a 31, gI g 64 ((bkB (va_up (va_up (pad2 bt tx 6) (bt + 1 + zN bt + 6) (((nI (8 * bt)) >>> ((nI 8) &&& 31)) &&& nI 255)) ((bt + 1 + zN bt + 6) + 1) ((nI (8 * bt)) &&& nI 255)) rd (64 * j) (((shaM (padT bt tx) rd (chI ch, wo, wr) j).1), ((shaM (padT bt tx) rd (chI ch, wo, wr) j).2.1), ((shaM (padT bt tx) rd (chI ch, wo, wr) j).2.2))).2.1)), (a 32, gI g 8 ((bkB (va_up (va_up (pad2 bt tx 6) (bt + 1 + zN bt + 6) (((nI (8 * bt)) >>> ((nI 8) &&& 31)) &&& nI 255)) ((bt + 1 + zN bt + 6) + 1) ((nI (8 * bt)) &&& nI 255)) rd (64 * j) (((shaM (padT bt tx) rd (chI ch, wo, wr) j).1), ((shaM (padT bt tx) rd (chI ch, wo, wr) j).2.1), ((shaM (padT bt tx) rd (chI ch, wo, wr) j).2.2))).1)), (a 33, gI g 8 ((bkB (va_up (va_up (pad2 bt tx 6) (bt + 1 + zN bt + 6) (((nI (8 * bt)) >>> ((nI 8) &&& 31)) &&& nI 255)) ((bt + 1 + zN bt + 6) + 1) ((nI (8 * bt)) &&& nI 255)) rd (64 * j) (((shaM (padT bt tx) rd (chI ch, wo, wr) j).1), ((shaM (padT bt tx) rd (chI ch, wo, wr) j).2.1), ((shaM (padT bt tx) rd (chI ch, wo, wr) j).2.2))).2.2)), (a 0, oM a th (bI wk) ro (nI lo) (nI ne) (nI di) (bI ta) (nI ce) (nI fo) (nI (((bt + 1 + zN bt + 6) + 1) + 1))), (a 30, gI g 128 (va_up (va_up (pad2 bt tx 6) (bt + 1 + zN bt + 6) (((nI (8 * bt)) >>> ((nI 8) &&& 31)) &&& nI 255)) ((bt + 1 + zN bt + 6) + 1) ((nI (8 * bt)) &&& nI 255)))]) [0, 2, 4, 5, 6, 1, 3] rfl rfl rfl ?_
              exact ihj (trivial)
        · skip
          exfalso; omega
      · intro j hlj huj hPj ihj
        try dsimp only at ihj ⊢
        refine g_iload_n C dX5_digestTo_34 rfl 0 rfl ?_
        refine g_bipush (v := nI 6) C dX5_digestTo_35 (by decide) ?_
        refine g_icmp_ge_n (tgt := 51) C dX5_digestTo_37 (by decide) (by omega) (by omega) (fun c37 => ?_) (fun c37 => ?_)
        · skip
          exfalso; omega
        · skip
          refine g_aload_n C dX5_digestTo_40 rfl 2 rfl ?_
          refine g_iconst (v := nI 0) C dX5_digestTo_41 (by decide) ?_
          refine g_callV0 (wr := [(a 8, gI g 4096 dg), (a 10, gI g 64 rd), (a 31, gI g 64 wo), (a 32, gI g 8 ch), (a 33, gI g 8 wr)]) (w2 := [(a 8, gI g 4096 dg), (a 10, gI g 64 rd), (a 31, gI g 64 wo), (a 32, gI g 8 ch), (a 33, gI g 8 wr), (a 0, oM a th (bI wk) ro (nI lo) (nI ne) (nI di) (bI ta) (nI ce) (nI fo) (nI ((bt + 1 + zN bt + j) + 1))), (a 30, gI g 128 (va_up (pad2 bt tx j) (bt + 1 + zN bt + j) ((nI 0) &&& nI 255)))]) C (c_X5_put l g a th wk ro lo ne di ta ce fo (bt + 1 + zN bt + j) (pad2 bt tx j) (nI 0) (by omega)) (cwV 1 C.2.2.2.2.1 gX5_digestTo_X5_put rfl rfl rfl (by decide +kernel) ⟨Nat.le_of_ble_eq_true rfl, Nat.le_of_ble_eq_true rfl⟩) 5 rfl rfl rfl [5, 6] [0, 1, 2, 3, 4] rfl rfl rfl rfl rfl (by decide) rfl rfl (Nat.le_of_ble_eq_true rfl) dX5_digestTo_42 ⟨Nat.le_of_ble_eq_true rfl, Nat.le_of_ble_eq_true rfl⟩ rfl ?_
          refine g_iinc_n (d := 1) (L' := [(3, .int (nI (j + 1))), (2, .int (nI bt)), (0, .ref (a 0)), (1, .int (nI q))]) C dX5_digestTo_45 0 rfl (by decide) (by decide) rfl ?_
          refine g_goto (tgt := 34) C dX5_digestTo_48 (by decide) ?_
          exact ihj (trivial)
    · skip
      exfalso; omega
  · intro j hlj huj hPj ihj
    try dsimp only at ihj ⊢
    have hz2 := hz.2.2 j huj
    refine g_aload_n C dX5_digestTo_12 rfl 1 rfl ?_
    refine g_get C hinX5 5 rfl rfl 28 (by decide) (by decide +kernel) rfl rfl dX5_digestTo_13 ?_
    refine g_bipush (v := nI 64) C dX5_digestTo_16 (by decide) ?_
    refine g_irem_n C dX5_digestTo_18 (by omega) (by omega) (by omega) ?_
    refine g_bipush (v := nI 56) C dX5_digestTo_19 (by decide) ?_
    refine g_icmp_eq_n (tgt := 32) C dX5_digestTo_21 (by decide) (by omega) (by omega) (fun c21 => ?_) (fun c21 => ?_)
    · skip
      exfalso; omega
    · skip
      refine g_aload_n C dX5_digestTo_24 rfl 1 rfl ?_
      refine g_iconst (v := nI 0) C dX5_digestTo_25 (by decide) ?_
      refine g_callV0 (wr := [(a 8, gI g 4096 dg), (a 10, gI g 64 rd), (a 31, gI g 64 wo), (a 32, gI g 8 ch), (a 33, gI g 8 wr)]) (w2 := [(a 8, gI g 4096 dg), (a 10, gI g 64 rd), (a 31, gI g 64 wo), (a 32, gI g 8 ch), (a 33, gI g 8 wr), (a 0, oM a th (bI wk) ro (nI lo) (nI ne) (nI di) (bI ta) (nI ce) (nI fo) (nI ((bt + 1 + j) + 1))), (a 30, gI g 128 (va_up (pad1 bt tx j) (bt + 1 + j) ((nI 0) &&& nI 255)))]) C (c_X5_put l g a th wk ro lo ne di ta ce fo (bt + 1 + j) (pad1 bt tx j) (nI 0) (by omega)) (cwV 1 C.2.2.2.2.1 gX5_digestTo_X5_put rfl rfl rfl (by decide +kernel) ⟨Nat.le_of_ble_eq_true rfl, Nat.le_of_ble_eq_true rfl⟩) 5 rfl rfl rfl [5, 6] [0, 1, 2, 3, 4] rfl rfl rfl rfl rfl (by decide) rfl rfl (Nat.le_of_ble_eq_true rfl) dX5_digestTo_26 ⟨Nat.le_of_ble_eq_true rfl, Nat.le_of_ble_eq_true rfl⟩ rfl ?_
      refine g_goto (tgt := 12) C dX5_digestTo_29 (by decide) ?_
      exact ihj (trivial)
set_option maxHeartbeats 4000000 in
set_option maxRecDepth 100000 in
theorem c_X5_firstLeaf (l : Launch) (g : gE) (r : Nat) (h1 : 1 ≤ r) (h2 : r < 64) : Kt l g yX5_firstLeaf wsX5_firstLeaf 0 0 0 0 [.int (nI r)] [] (kR (some (.int (nI (fLf r)))) []) := by
  refine g_enter (cc := cX5_firstLeaf) (maxL := 2) (ret := (some .int)) (own := RX5) (L := [(0, .int (nI r))]) (by decide) rfl rfl (Nat.le_of_ble_eq_true rfl) rfl ?_
  intro p e s m args below meth c hin0 C
  have hd := dbl_ok r h2 h1
  refine g_iload_n C dX5_firstLeaf_0 rfl 0 rfl ?_
  refine g_istore_n (L' := [(1, .int (nI r)), (0, .int (nI r))]) C dX5_firstLeaf_1 rfl (by decide) rfl ?_
  refine g_up (nD r) 0 (fun _ => True) (fun j => [(1, .int (nI (dblF r j))), (0, .int (nI r))]) (fun j => []) (by omega) (trivial) ?_ ?_
  · intro hPj
    try dsimp only
    refine g_iload_n C dX5_firstLeaf_2 rfl 0 rfl ?_
    refine g_bipush (v := nI 32) C dX5_firstLeaf_3 (by decide) ?_
    refine g_icmp_ge_n (tgt := 15) C dX5_firstLeaf_5 (by decide) (by omega) (by omega) (fun c5 => ?_) (fun c5 => ?_)
    · skip
      refine g_iload_n C dX5_firstLeaf_15 rfl 0 rfl ?_
      refine g_iret C dX5_firstLeaf_16 (by decide) (by decide) ?_
      exact ⟨rfl, rfl⟩
    · skip
      exfalso; omega
  · intro j hlj huj hPj ihj
    try dsimp only at ihj ⊢
    have hd1 := hd.1 j huj
    refine g_iload_n C dX5_firstLeaf_2 rfl 0 rfl ?_
    refine g_bipush (v := nI 32) C dX5_firstLeaf_3 (by decide) ?_
    refine g_icmp_ge_n (tgt := 15) C dX5_firstLeaf_5 (by decide) (by omega) (by omega) (fun c5 => ?_) (fun c5 => ?_)
    · skip
      exfalso; omega
    · skip
      refine g_iconst (v := nI 2) C dX5_firstLeaf_8 (by decide) ?_
      refine g_iload_n C dX5_firstLeaf_9 rfl 0 rfl ?_
      refine g_imul_n C dX5_firstLeaf_10 ?_
      refine g_istore_n (L' := [(1, .int (nI (2 * (dblF r j)))), (0, .int (nI r))]) C dX5_firstLeaf_11 rfl (by decide) rfl ?_
      refine g_goto (tgt := 2) C dX5_firstLeaf_12 (by decide) ?_
      exact ihj (trivial)
set_option maxHeartbeats 4000000 in
set_option maxRecDepth 100000 in
theorem c_X5_lastLeaf (l : Launch) (g : gE) (r : Nat) (h1 : 1 ≤ r) (h2 : r < 64) : Kt l g yX5_lastLeaf wsX5_lastLeaf 0 0 0 0 [.int (nI r)] [] (kR (some (.int (nI (lLf r)))) []) := by
  refine g_enter (cc := cX5_lastLeaf) (maxL := 2) (ret := (some .int)) (own := RX5) (L := [(0, .int (nI r))]) (by decide) rfl rfl (Nat.le_of_ble_eq_true rfl) rfl ?_
  intro p e s m args below meth c hin0 C
  have hd := dbp_ok r h2 h1
  refine g_iload_n C dX5_lastLeaf_0 rfl 0 rfl ?_
  refine g_istore_n (L' := [(1, .int (nI r)), (0, .int (nI r))]) C dX5_lastLeaf_1 rfl (by decide) rfl ?_
  refine g_up (nD r) 0 (fun _ => True) (fun j => [(1, .int (nI (dblL r j))), (0, .int (nI r))]) (fun j => []) (by omega) (trivial) ?_ ?_
  · intro hPj
    try dsimp only
    refine g_iload_n C dX5_lastLeaf_2 rfl 0 rfl ?_
    refine g_bipush (v := nI 32) C dX5_lastLeaf_3 (by decide) ?_
    refine g_icmp_ge_n (tgt := 17) C dX5_lastLeaf_5 (by decide) (by omega) (by omega) (fun c5 => ?_) (fun c5 => ?_)
    · skip
      refine g_iload_n C dX5_lastLeaf_17 rfl 0 rfl ?_
      refine g_iret C dX5_lastLeaf_18 (by decide) (by decide) ?_
      exact ⟨rfl, rfl⟩
    · skip
      exfalso; omega
  · intro j hlj huj hPj ihj
    try dsimp only at ihj ⊢
    have hd1 := hd.1 j huj
    refine g_iload_n C dX5_lastLeaf_2 rfl 0 rfl ?_
    refine g_bipush (v := nI 32) C dX5_lastLeaf_3 (by decide) ?_
    refine g_icmp_ge_n (tgt := 17) C dX5_lastLeaf_5 (by decide) (by omega) (by omega) (fun c5 => ?_) (fun c5 => ?_)
    · skip
      exfalso; omega
    · skip
      refine g_iconst (v := nI 2) C dX5_lastLeaf_8 (by decide) ?_
      refine g_iload_n C dX5_lastLeaf_9 rfl 0 rfl ?_
      refine g_imul_n C dX5_lastLeaf_10 ?_
      refine g_iconst (v := nI 1) C dX5_lastLeaf_11 (by decide) ?_
      refine g_iadd_n C dX5_lastLeaf_12 ?_
      refine g_istore_n (L' := [(1, .int (nI ((2 * (dblL r j)) + 1))), (0, .int (nI r))]) C dX5_lastLeaf_13 rfl (by decide) rfl ?_
      refine g_goto (tgt := 2) C dX5_lastLeaf_14 (by decide) ?_
      exact ihj (trivial)
