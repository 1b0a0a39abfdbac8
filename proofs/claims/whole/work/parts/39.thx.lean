set_option maxHeartbeats 4000000 in
set_option maxRecDepth 100000 in
theorem c_X4_row_thr (l : Launch) (g : gE) (sa : Nat → Nat) (hst : l.stackTraces = false) (a z o h y t : Nat → Nat) (x y9 z9 : Int32) (v : Int64) (hb : m_slot x y9 z9 = -1) : Kx l g sa yX4_row wsX4_row 6 82 1 6 [.ref (a 0), .int x, .int y9, .int z9, .long v] [(a 0, .inr (5, [.ref (z 0), .ref (o 0), .ref (h 0), .ref (y 0), .ref (t 0)]))] "java/lang/IllegalArgumentException" := by
  refine g_enterX (cc := cX4_row) (maxL := 8) (ret := (some .int)) (own := RX4) (L := [(0, .ref (a 0)), (1, .int x), (2, .int y9), (3, .int z9), (4, .long v)]) (by decide) rfl rfl (Nat.le_of_ble_eq_true rfl) rfl ?_
  intro p e s m args below meth c C htab hTH
  refine g_iload_n C dX4_row_0 rfl 1 rfl ?_
  refine g_iload_n C dX4_row_1 rfl 2 rfl ?_
  refine g_iload_n C dX4_row_2 rfl 3 rfl ?_
  refine g_callS1 (wr := [(a 0, .inr (5, [.ref (z 0), .ref (o 0), .ref (h 0), .ref (y 0), .ref (t 0)]))]) (w2 := [(a 0, .inr (5, [.ref (z 0), .ref (o 0), .ref (h 0), .ref (y 0), .ref (t 0)]))]) C (c_X4_slotOf l g x y9 z9) (va_cwS 3 C.2.2.2.2.1 gX4_row_X4_slotOf rfl rfl rfl (by decide +kernel) ⟨Nat.le_of_ble_eq_true rfl, Nat.le_of_ble_eq_true rfl⟩) [] [0] rfl rfl rfl rfl rfl (by decide) rfl rfl (Nat.le_of_ble_eq_true rfl) dX4_row_3 ⟨Nat.le_of_ble_eq_true rfl, Nat.le_of_ble_eq_true rfl⟩ rfl ?_
  refine g_istore (L' := [(6, .int (m_slot x y9 z9)), (0, .ref (a 0)), (1, .int x), (2, .int y9), (3, .int z9), (4, .long v)]) C dX4_row_6 (by decide) rfl ?_
  refine g_iload C dX4_row_8 0 rfl ?_
  refine g_iconst (v := (-1)) C dX4_row_10 (by decide) ?_
  refine g_icmp_ne (tgt := 24) C dX4_row_11 (by decide) (fun c11 => ?_) (fun c11 => ?_)
  · skip
    exact absurd hb c11
  · skip
    refine g_throw (text := "no such side, node or number") (names := ["java/lang/RuntimeException", "java/lang/Exception"]) (ik := 44) (is := 46) (ic := 48) (sa := sa 46) C hst htab (by decide) (by decide) (by decide +kernel) (by decide +kernel) (hTH.2 (46, "no such side, node or number") (by decide)) ?_ (by decide +kernel) dX4_row_14 dX4_row_17 dX4_row_18 dX4_row_20 dX4_row_23 (by decide) (by decide) (by decide) (by decide) (by decide) (by decide)
    refine vx_hat (fun w h => C.2.2.2.2.1 w ?_) (fun w h => List.mem_flatMap.mpr ⟨(48, "java/lang/IllegalArgumentException", gRE), by simp [gThr4], h⟩) hTH.use
    unfold wsX4_row
    simp only [List.mem_cons, List.mem_append]
    simp only [h, or_true, true_or]
set_option maxHeartbeats 4000000 in
set_option maxRecDepth 100000 in
theorem c_X4_get_thr (l : Launch) (g : gE) (sa : Nat → Nat) (hst : l.stackTraces = false) (a z o h y t : Nat → Nat) (x y9 z9 : Int32) (hb : m_slot x y9 z9 = -1) : Kx l g sa yX4_get wsX4_get 6 82 1 6 [.ref (a 0), .int x, .int y9, .int z9] [(a 0, .inr (5, [.ref (z 0), .ref (o 0), .ref (h 0), .ref (y 0), .ref (t 0)]))] "java/util/NoSuchElementException" := by
  refine g_enterX (cc := cX4_get) (maxL := 5) (ret := (some .long)) (own := RX4) (L := [(0, .ref (a 0)), (1, .int x), (2, .int y9), (3, .int z9)]) (by decide) rfl rfl (Nat.le_of_ble_eq_true rfl) rfl ?_
  intro p e s m args below meth c C htab hTH
  refine g_iload_n C dX4_get_0 rfl 1 rfl ?_
  refine g_iload_n C dX4_get_1 rfl 2 rfl ?_
  refine g_iload_n C dX4_get_2 rfl 3 rfl ?_
  refine g_callS1 (wr := [(a 0, .inr (5, [.ref (z 0), .ref (o 0), .ref (h 0), .ref (y 0), .ref (t 0)]))]) (w2 := [(a 0, .inr (5, [.ref (z 0), .ref (o 0), .ref (h 0), .ref (y 0), .ref (t 0)]))]) C (c_X4_slotOf l g x y9 z9) (va_cwS 3 C.2.2.2.2.1 gX4_get_X4_slotOf rfl rfl rfl (by decide +kernel) ⟨Nat.le_of_ble_eq_true rfl, Nat.le_of_ble_eq_true rfl⟩) [] [0] rfl rfl rfl rfl rfl (by decide) rfl rfl (Nat.le_of_ble_eq_true rfl) dX4_get_3 ⟨Nat.le_of_ble_eq_true rfl, Nat.le_of_ble_eq_true rfl⟩ rfl ?_
  refine g_istore (L' := [(4, .int (m_slot x y9 z9)), (0, .ref (a 0)), (1, .int x), (2, .int y9), (3, .int z9)]) C dX4_get_6 (by decide) rfl ?_
  refine g_iload C dX4_get_8 0 rfl ?_
  refine g_iconst (v := (-1)) C dX4_get_10 (by decide) ?_
  refine g_icmp_eq (tgt := 27) C dX4_get_11 (by decide) (fun c11 => ?_) (fun c11 => ?_)
  · skip
    refine g_throw (text := "no such row") (names := ["java/lang/RuntimeException", "java/lang/Exception"]) (ik := 99) (is := 101) (ic := 103) (sa := sa 101) C hst htab (by decide) (by decide) (by decide +kernel) (by decide +kernel) (hTH.2 (101, "no such row") (by decide)) ?_ (by decide +kernel) dX4_get_27 dX4_get_30 dX4_get_31 dX4_get_33 dX4_get_36 (by decide) (by decide) (by decide) (by decide) (by decide) (by decide)
    refine vx_hat (fun w h => C.2.2.2.2.1 w ?_) (fun w h => List.mem_flatMap.mpr ⟨(103, "java/util/NoSuchElementException", gRE), by simp [gThr4], h⟩) hTH.use
    unfold wsX4_get
    simp only [List.mem_cons, List.mem_append]
    simp only [h, or_true, true_or]
  · skip
    exact absurd hb c11
set_option maxHeartbeats 4000000 in
set_option maxRecDepth 100000 in
theorem c_X4_get_thr0 (l : Launch) (g : gE) (sa : Nat → Nat) (hst : l.stackTraces = false) (a z o h y t : Nat → Nat) (sz : Int32) (pr : Nat → Bool) (n u : Nat) (hn : n < 4) (hu : 1 ≤ u) (hu2 : u ≤ 64) (hp : pr (64 * n + u - 1) = false) : Kx l g sa yX4_get wsX4_get 6 82 1 6 [.ref (a 0), .int (nI 0), .int (nI n), .int (nI u)] [(a 0, .inr (5, [.ref (z 0), .ref (o 0), .ref (h 0), .ref (y 0), .ref (t 0)])), (z 0, .inr (2, [.ref (z 1), .ref (z 2), .ref (z 3), .ref (z 4), .ref (z 5), .ref (z 6), .int sz])), (z 1, gZ g 256 pr)] "java/util/NoSuchElementException" := by
  refine g_enterX (cc := cX4_get) (maxL := 5) (ret := (some .long)) (own := RX4) (L := [(0, .ref (a 0)), (1, .int (nI 0)), (2, .int (nI n)), (3, .int (nI u))]) (by decide) rfl rfl (Nat.le_of_ble_eq_true rfl) rfl ?_
  intro p e s m args below meth c C htab hTH
  refine g_iload_n C dX4_get_0 rfl 1 rfl ?_
  refine g_iload_n C dX4_get_1 rfl 2 rfl ?_
  refine g_iload_n C dX4_get_2 rfl 3 rfl ?_
  refine g_callS1 (wr := [(a 0, .inr (5, [.ref (z 0), .ref (o 0), .ref (h 0), .ref (y 0), .ref (t 0)])), (z 0, .inr (2, [.ref (z 1), .ref (z 2), .ref (z 3), .ref (z 4), .ref (z 5), .ref (z 6), .int sz])), (z 1, gZ g 256 pr)]) (w2 := [(a 0, .inr (5, [.ref (z 0), .ref (o 0), .ref (h 0), .ref (y 0), .ref (t 0)])), (z 0, .inr (2, [.ref (z 1), .ref (z 2), .ref (z 3), .ref (z 4), .ref (z 5), .ref (z 6), .int sz])), (z 1, gZ g 256 pr)]) C (c_X4_slotOf_n l g 0 n u (by omega) (by omega) (by omega) (by omega)) (va_cwS 3 C.2.2.2.2.1 gX4_get_X4_slotOf rfl rfl rfl (by decide +kernel) ⟨Nat.le_of_ble_eq_true rfl, Nat.le_of_ble_eq_true rfl⟩) [] [0, 1, 2] rfl rfl rfl rfl rfl (by decide) rfl rfl (Nat.le_of_ble_eq_true rfl) dX4_get_3 ⟨Nat.le_of_ble_eq_true rfl, Nat.le_of_ble_eq_true rfl⟩ rfl ?_
  refine g_istore (L' := [(4, .int (nI (64 * n + u - 1))), (0, .ref (a 0)), (1, .int (nI 0)), (2, .int (nI n)), (3, .int (nI u))]) C dX4_get_6 (by decide) rfl ?_
  refine g_iload C dX4_get_8 0 rfl ?_
  refine g_iconst (v := (-1)) C dX4_get_10 (by decide) ?_
  refine g_icmp_eq (tgt := 27) C dX4_get_11 (by decide) (fun c11 => ?_) (fun c11 => ?_)
  · skip
    exact absurd c11 (nI_nm1 (by omega))
  · skip
    refine g_aload_n C dX4_get_14 rfl 1 rfl ?_
    refine g_iload_n C dX4_get_15 rfl 2 rfl ?_
    refine g_callV1 (wr := [(z 0, .inr (2, [.ref (z 1), .ref (z 2), .ref (z 3), .ref (z 4), .ref (z 5), .ref (z 6), .int sz])), (z 1, gZ g 256 pr)]) (w2 := [(z 0, .inr (2, [.ref (z 1), .ref (z 2), .ref (z 3), .ref (z 4), .ref (z 5), .ref (z 6), .int sz])), (z 1, gZ g 256 pr), (a 0, .inr (5, [.ref (z 0), .ref (o 0), .ref (h 0), .ref (y 0), .ref (t 0)]))]) C (c_X4_sideOf_0 l g a z o h y t) (cwV 1 C.2.2.2.2.1 gX4_get_X4_sideOf rfl rfl rfl (by decide +kernel) ⟨Nat.le_of_ble_eq_true rfl, Nat.le_of_ble_eq_true rfl⟩) 0 rfl rfl rfl [0] [1, 2] rfl rfl rfl rfl rfl (by decide) rfl rfl (Nat.le_of_ble_eq_true rfl) dX4_get_16 ⟨Nat.le_of_ble_eq_true rfl, Nat.le_of_ble_eq_true rfl⟩ rfl ?_
    refine g_iload C dX4_get_19 0 rfl ?_
    refine g_callV1 (wr := [(a 0, .inr (5, [.ref (z 0), .ref (o 0), .ref (h 0), .ref (y 0), .ref (t 0)]))]) (w2 := [(a 0, .inr (5, [.ref (z 0), .ref (o 0), .ref (h 0), .ref (y 0), .ref (t 0)])), (z 0, .inr (2, [.ref (z 1), .ref (z 2), .ref (z 3), .ref (z 4), .ref (z 5), .ref (z 6), .int sz])), (z 1, gZ g 256 pr)]) C (c_X1_has l g z sz pr (64 * n + u - 1) (by omega)) (cwV 1 C.2.2.2.2.1 gX4_get_X1_has rfl rfl rfl (by decide +kernel) ⟨Nat.le_of_ble_eq_true rfl, Nat.le_of_ble_eq_true rfl⟩) 0 rfl rfl rfl [0, 1] [2] rfl rfl rfl rfl rfl (by decide) rfl rfl (Nat.le_of_ble_eq_true rfl) dX4_get_21 ⟨Nat.le_of_ble_eq_true rfl, Nat.le_of_ble_eq_true rfl⟩ rfl ?_
    refine g_if_ne_b (tgt := 37) C dX4_get_24 (by decide) (fun c24 => ?_) (fun c24 => ?_)
    · skip
      exact absurd (hp.symm.trans c24) (by decide)
    · skip
      refine g_throw (text := "no such row") (names := ["java/lang/RuntimeException", "java/lang/Exception"]) (ik := 99) (is := 101) (ic := 103) (sa := sa 101) C hst htab (by decide) (by decide) (by decide +kernel) (by decide +kernel) (hTH.2 (101, "no such row") (by decide)) ?_ (by decide +kernel) dX4_get_27 dX4_get_30 dX4_get_31 dX4_get_33 dX4_get_36 (by decide) (by decide) (by decide) (by decide) (by decide) (by decide)
      refine vx_hat (fun w h => C.2.2.2.2.1 w ?_) (fun w h => List.mem_flatMap.mpr ⟨(103, "java/util/NoSuchElementException", gRE), by simp [gThr4], h⟩) hTH.use
      unfold wsX4_get
      simp only [List.mem_cons, List.mem_append]
      simp only [h, or_true, true_or]
set_option maxHeartbeats 4000000 in
set_option maxRecDepth 100000 in
theorem c_X4_get_thr1 (l : Launch) (g : gE) (sa : Nat → Nat) (hst : l.stackTraces = false) (a z o h y t : Nat → Nat) (sz2 : Int32) (pr2 : Nat → Bool) (n u : Nat) (hn : n < 4) (hu : 1 ≤ u) (hu2 : u ≤ 64) (hp : pr2 (64 * n + u - 1) = false) : Kx l g sa yX4_get wsX4_get 6 82 1 6 [.ref (a 0), .int (nI 1), .int (nI n), .int (nI u)] [(a 0, .inr (5, [.ref (z 0), .ref (o 0), .ref (h 0), .ref (y 0), .ref (t 0)])), (o 0, .inr (2, [.ref (o 1), .ref (o 2), .ref (o 3), .ref (o 4), .ref (o 5), .ref (o 6), .int sz2])), (o 1, gZ g 256 pr2)] "java/util/NoSuchElementException" := by
  refine g_enterX (cc := cX4_get) (maxL := 5) (ret := (some .long)) (own := RX4) (L := [(0, .ref (a 0)), (1, .int (nI 1)), (2, .int (nI n)), (3, .int (nI u))]) (by decide) rfl rfl (Nat.le_of_ble_eq_true rfl) rfl ?_
  intro p e s m args below meth c C htab hTH
  refine g_iload_n C dX4_get_0 rfl 1 rfl ?_
  refine g_iload_n C dX4_get_1 rfl 2 rfl ?_
  refine g_iload_n C dX4_get_2 rfl 3 rfl ?_
  refine g_callS1 (wr := [(a 0, .inr (5, [.ref (z 0), .ref (o 0), .ref (h 0), .ref (y 0), .ref (t 0)])), (o 0, .inr (2, [.ref (o 1), .ref (o 2), .ref (o 3), .ref (o 4), .ref (o 5), .ref (o 6), .int sz2])), (o 1, gZ g 256 pr2)]) (w2 := [(a 0, .inr (5, [.ref (z 0), .ref (o 0), .ref (h 0), .ref (y 0), .ref (t 0)])), (o 0, .inr (2, [.ref (o 1), .ref (o 2), .ref (o 3), .ref (o 4), .ref (o 5), .ref (o 6), .int sz2])), (o 1, gZ g 256 pr2)]) C (c_X4_slotOf_n l g 1 n u (by omega) (by omega) (by omega) (by omega)) (va_cwS 3 C.2.2.2.2.1 gX4_get_X4_slotOf rfl rfl rfl (by decide +kernel) ⟨Nat.le_of_ble_eq_true rfl, Nat.le_of_ble_eq_true rfl⟩) [] [0, 1, 2] rfl rfl rfl rfl rfl (by decide) rfl rfl (Nat.le_of_ble_eq_true rfl) dX4_get_3 ⟨Nat.le_of_ble_eq_true rfl, Nat.le_of_ble_eq_true rfl⟩ rfl ?_
  refine g_istore (L' := [(4, .int (nI (64 * n + u - 1))), (0, .ref (a 0)), (1, .int (nI 1)), (2, .int (nI n)), (3, .int (nI u))]) C dX4_get_6 (by decide) rfl ?_
  refine g_iload C dX4_get_8 0 rfl ?_
  refine g_iconst (v := (-1)) C dX4_get_10 (by decide) ?_
  refine g_icmp_eq (tgt := 27) C dX4_get_11 (by decide) (fun c11 => ?_) (fun c11 => ?_)
  · skip
    exact absurd c11 (nI_nm1 (by omega))
  · skip
    refine g_aload_n C dX4_get_14 rfl 1 rfl ?_
    refine g_iload_n C dX4_get_15 rfl 2 rfl ?_
    refine g_callV1 (wr := [(o 0, .inr (2, [.ref (o 1), .ref (o 2), .ref (o 3), .ref (o 4), .ref (o 5), .ref (o 6), .int sz2])), (o 1, gZ g 256 pr2)]) (w2 := [(o 0, .inr (2, [.ref (o 1), .ref (o 2), .ref (o 3), .ref (o 4), .ref (o 5), .ref (o 6), .int sz2])), (o 1, gZ g 256 pr2), (a 0, .inr (5, [.ref (z 0), .ref (o 0), .ref (h 0), .ref (y 0), .ref (t 0)]))]) C (c_X4_sideOf_1 l g a z o h y t) (cwV 1 C.2.2.2.2.1 gX4_get_X4_sideOf rfl rfl rfl (by decide +kernel) ⟨Nat.le_of_ble_eq_true rfl, Nat.le_of_ble_eq_true rfl⟩) 0 rfl rfl rfl [0] [1, 2] rfl rfl rfl rfl rfl (by decide) rfl rfl (Nat.le_of_ble_eq_true rfl) dX4_get_16 ⟨Nat.le_of_ble_eq_true rfl, Nat.le_of_ble_eq_true rfl⟩ rfl ?_
    refine g_iload C dX4_get_19 0 rfl ?_
    refine g_callV1 (wr := [(a 0, .inr (5, [.ref (z 0), .ref (o 0), .ref (h 0), .ref (y 0), .ref (t 0)]))]) (w2 := [(a 0, .inr (5, [.ref (z 0), .ref (o 0), .ref (h 0), .ref (y 0), .ref (t 0)])), (o 0, .inr (2, [.ref (o 1), .ref (o 2), .ref (o 3), .ref (o 4), .ref (o 5), .ref (o 6), .int sz2])), (o 1, gZ g 256 pr2)]) C (c_X1_has l g o sz2 pr2 (64 * n + u - 1) (by omega)) (cwV 1 C.2.2.2.2.1 gX4_get_X1_has rfl rfl rfl (by decide +kernel) ⟨Nat.le_of_ble_eq_true rfl, Nat.le_of_ble_eq_true rfl⟩) 0 rfl rfl rfl [0, 1] [2] rfl rfl rfl rfl rfl (by decide) rfl rfl (Nat.le_of_ble_eq_true rfl) dX4_get_21 ⟨Nat.le_of_ble_eq_true rfl, Nat.le_of_ble_eq_true rfl⟩ rfl ?_
    refine g_if_ne_b (tgt := 37) C dX4_get_24 (by decide) (fun c24 => ?_) (fun c24 => ?_)
    · skip
      exact absurd (hp.symm.trans c24) (by decide)
    · skip
      refine g_throw (text := "no such row") (names := ["java/lang/RuntimeException", "java/lang/Exception"]) (ik := 99) (is := 101) (ic := 103) (sa := sa 101) C hst htab (by decide) (by decide) (by decide +kernel) (by decide +kernel) (hTH.2 (101, "no such row") (by decide)) ?_ (by decide +kernel) dX4_get_27 dX4_get_30 dX4_get_31 dX4_get_33 dX4_get_36 (by decide) (by decide) (by decide) (by decide) (by decide) (by decide)
      refine vx_hat (fun w h => C.2.2.2.2.1 w ?_) (fun w h => List.mem_flatMap.mpr ⟨(103, "java/util/NoSuchElementException", gRE), by simp [gThr4], h⟩) hTH.use
      unfold wsX4_get
      simp only [List.mem_cons, List.mem_append]
      simp only [h, or_true, true_or]
set_option maxHeartbeats 4000000 in
set_option maxRecDepth 100000 in
theorem c_X4_round_thr (l : Launch) (g : gE) (sa : Nat → Nat) (hst : l.stackTraces = false) (a z o h y t : Nat → Nat) (rg cm : Nat → Nat) (kd : Nat → Int32) (sl : Nat → Nat) (pe cs ts : Nat) (dn : Int32) (h0 : pe = 0) : Kx l g sa yX4_round wsX4_round 6 82 1 6 [.ref (a 0)] [(a 0, .inr (5, [.ref (z 0), .ref (o 0), .ref (h 0), .ref (y 0), .ref (t 0)])), (y 0, .inr (4, [.ref (y 1), .ref (y 2), .ref (y 3), .ref (y 4), .int (nI pe), .int (nI cs), .int (nI ts), .int dn])), (y 1, gN g 32 rg), (y 2, gN g 32 cm), (y 3, gI g 256 kd), (y 4, gN g 256 sl)] "java/lang/IllegalStateException" := by
  have hinX4 : ∀ w ∈ wsX40, w ∈ wsX4_round := by
    intro w h
    unfold wsX4_round
    simp only [List.mem_cons, List.mem_append]
    simp only [h, or_true, true_or]
  refine g_enterX (cc := cX4_round) (maxL := 1) (ret := (some .int)) (own := RX4) (L := [(0, .ref (a 0))]) (by decide) rfl rfl (Nat.le_of_ble_eq_true rfl) rfl ?_
  intro p e s m args below meth c C htab hTH
  refine g_aload_n C dX4_round_0 rfl 0 rfl ?_
  refine g_get C hinX4 0 rfl rfl 3 (by decide) (by decide +kernel) rfl rfl dX4_round_1 ?_
  refine g_callV1 (wr := [(a 0, .inr (5, [.ref (z 0), .ref (o 0), .ref (h 0), .ref (y 0), .ref (t 0)]))]) (w2 := [(a 0, .inr (5, [.ref (z 0), .ref (o 0), .ref (h 0), .ref (y 0), .ref (t 0)])), (y 0, .inr (4, [.ref (y 1), .ref (y 2), .ref (y 3), .ref (y 4), .int (nI pe), .int (nI cs), .int (nI ts), .int dn])), (y 1, gN g 32 rg), (y 2, gN g 32 cm), (y 3, gI g 256 kd), (y 4, gN g 256 sl)]) C (c_X3_pending l g y rg cm kd sl pe cs ts dn) (cwV 0 C.2.2.2.2.1 gX4_round_X3_pending rfl rfl rfl (by decide +kernel) ⟨Nat.le_of_ble_eq_true rfl, Nat.le_of_ble_eq_true rfl⟩) 1 rfl rfl rfl [1, 2, 3, 4, 5] [0] rfl rfl rfl rfl rfl (by decide) rfl rfl (Nat.le_of_ble_eq_true rfl) dX4_round_4 ⟨Nat.le_of_ble_eq_true rfl, Nat.le_of_ble_eq_true rfl⟩ rfl ?_
  refine g_if_ne_n (tgt := 20) C dX4_round_7 (by decide) (by omega) (fun c7 => ?_) (fun c7 => ?_)
  · skip
    exfalso; omega
  · skip
    refine g_throw (text := "no walk, or it has ended") (names := ["java/lang/RuntimeException", "java/lang/Exception"]) (ik := 110) (is := 112) (ic := 114) (sa := sa 112) C hst htab (by decide) (by decide) (by decide +kernel) (by decide +kernel) (hTH.2 (112, "no walk, or it has ended") (by decide)) ?_ (by decide +kernel) dX4_round_10 dX4_round_13 dX4_round_14 dX4_round_16 dX4_round_19 (by decide) (by decide) (by decide) (by decide) (by decide) (by decide)
    refine vx_hat (fun w h => C.2.2.2.2.1 w ?_) (fun w h => List.mem_flatMap.mpr ⟨(114, "java/lang/IllegalStateException", gRE), by simp [gThr4], h⟩) hTH.use
    unfold wsX4_round
    simp only [List.mem_cons, List.mem_append]
    simp only [h, or_true, true_or]
set_option maxHeartbeats 4000000 in
set_option maxRecDepth 100000 in
theorem c_X4_table_thr1 (l : Launch) (g : gE) (sa : Nat → Nat) (hst : l.stackTraces = false) (a z o h y t : Nat → Nat) (x : Int32) (hb : x < nI 6) : Kx l g sa yX4_table wsX4_table 6 82 1 6 [.ref (a 0), .int x] [(a 0, .inr (5, [.ref (z 0), .ref (o 0), .ref (h 0), .ref (y 0), .ref (t 0)]))] "java/lang/IllegalArgumentException" := by
  refine g_enterX (cc := cX4_table) (maxL := 3) (ret := (some .int)) (own := RX4) (L := [(0, .ref (a 0)), (1, .int x)]) (by decide) rfl rfl (Nat.le_of_ble_eq_true rfl) rfl ?_
  intro p e s m args below meth c C htab hTH
  refine g_iload_n C dX4_table_0 rfl 1 rfl ?_
  refine g_bipush (v := nI 6) C dX4_table_1 (by decide) ?_
  refine g_icmp_lt (tgt := 18) C dX4_table_3 (by decide) (fun c3 => ?_) (fun c3 => ?_)
  · skip
    refine g_throw (text := "a table has 6 to 63 cells, in three equal parts") (names := ["java/lang/RuntimeException", "java/lang/Exception"]) (ik := 44) (is := 130) (ic := 48) (sa := sa 130) C hst htab (by decide) (by decide) (by decide +kernel) (by decide +kernel) (hTH.2 (130, "a table has 6 to 63 cells, in three equal parts") (by decide)) ?_ (by decide +kernel) dX4_table_18 dX4_table_21 dX4_table_22 dX4_table_24 dX4_table_27 (by decide) (by decide) (by decide) (by decide) (by decide) (by decide)
    refine vx_hat (fun w h => C.2.2.2.2.1 w ?_) (fun w h => List.mem_flatMap.mpr ⟨(48, "java/lang/IllegalArgumentException", gRE), by simp [gThr4], h⟩) hTH.use
    unfold wsX4_table
    simp only [List.mem_cons, List.mem_append]
    simp only [h, or_true, true_or]
  · skip
    exact absurd hb c3
set_option maxHeartbeats 4000000 in
set_option maxRecDepth 100000 in
theorem c_X4_table_thr2 (l : Launch) (g : gE) (sa : Nat → Nat) (hst : l.stackTraces = false) (a z o h y t : Nat → Nat) (x : Int32) (hb : ¬ x < nI 6) (hb2 : nI 63 < x) : Kx l g sa yX4_table wsX4_table 6 82 1 6 [.ref (a 0), .int x] [(a 0, .inr (5, [.ref (z 0), .ref (o 0), .ref (h 0), .ref (y 0), .ref (t 0)]))] "java/lang/IllegalArgumentException" := by
  refine g_enterX (cc := cX4_table) (maxL := 3) (ret := (some .int)) (own := RX4) (L := [(0, .ref (a 0)), (1, .int x)]) (by decide) rfl rfl (Nat.le_of_ble_eq_true rfl) rfl ?_
  intro p e s m args below meth c C htab hTH
  refine g_iload_n C dX4_table_0 rfl 1 rfl ?_
  refine g_bipush (v := nI 6) C dX4_table_1 (by decide) ?_
  refine g_icmp_lt (tgt := 18) C dX4_table_3 (by decide) (fun c3 => ?_) (fun c3 => ?_)
  · skip
    exact absurd c3 hb
  · skip
    refine g_iload_n C dX4_table_6 rfl 1 rfl ?_
    refine g_bipush (v := nI 63) C dX4_table_7 (by decide) ?_
    refine g_icmp_gt (tgt := 18) C dX4_table_9 (by decide) (fun c9 => ?_) (fun c9 => ?_)
    · skip
      refine g_throw (text := "a table has 6 to 63 cells, in three equal parts") (names := ["java/lang/RuntimeException", "java/lang/Exception"]) (ik := 44) (is := 130) (ic := 48) (sa := sa 130) C hst htab (by decide) (by decide) (by decide +kernel) (by decide +kernel) (hTH.2 (130, "a table has 6 to 63 cells, in three equal parts") (by decide)) ?_ (by decide +kernel) dX4_table_18 dX4_table_21 dX4_table_22 dX4_table_24 dX4_table_27 (by decide) (by decide) (by decide) (by decide) (by decide) (by decide)
      refine vx_hat (fun w h => C.2.2.2.2.1 w ?_) (fun w h => List.mem_flatMap.mpr ⟨(48, "java/lang/IllegalArgumentException", gRE), by simp [gThr4], h⟩) hTH.use
      unfold wsX4_table
      simp only [List.mem_cons, List.mem_append]
      simp only [h, or_true, true_or]
    · skip
      exact absurd hb2 c9
set_option maxHeartbeats 4000000 in
set_option maxRecDepth 100000 in
theorem c_X4_table_thr3 (l : Launch) (g : gE) (sa : Nat → Nat) (hst : l.stackTraces = false) (a z o h y t : Nat → Nat) (n : Nat) (h1 : 6 ≤ n) (h2 : n ≤ 63) (h3 : ¬ n % 3 = 0) : Kx l g sa yX4_table wsX4_table 6 82 1 6 [.ref (a 0), .int (nI n)] [(a 0, .inr (5, [.ref (z 0), .ref (o 0), .ref (h 0), .ref (y 0), .ref (t 0)]))] "java/lang/IllegalArgumentException" := by
  refine g_enterX (cc := cX4_table) (maxL := 3) (ret := (some .int)) (own := RX4) (L := [(0, .ref (a 0)), (1, .int (nI n))]) (by decide) rfl rfl (Nat.le_of_ble_eq_true rfl) rfl ?_
  intro p e s m args below meth c C htab hTH
  refine g_iload_n C dX4_table_0 rfl 1 rfl ?_
  refine g_bipush (v := nI 6) C dX4_table_1 (by decide) ?_
  refine g_icmp_lt_n (tgt := 18) C dX4_table_3 (by decide) (by omega) (by omega) (fun c3 => ?_) (fun c3 => ?_)
  · skip
    exfalso; omega
  · skip
    refine g_iload_n C dX4_table_6 rfl 1 rfl ?_
    refine g_bipush (v := nI 63) C dX4_table_7 (by decide) ?_
    refine g_icmp_gt_n (tgt := 18) C dX4_table_9 (by decide) (by omega) (by omega) (fun c9 => ?_) (fun c9 => ?_)
    · skip
      exfalso; omega
    · skip
      refine g_iload_n C dX4_table_12 rfl 1 rfl ?_
      refine g_iconst (v := nI 3) C dX4_table_13 (by decide) ?_
      refine g_irem_n C dX4_table_14 (by omega) (by omega) (by omega) ?_
      refine g_if_eq_n (tgt := 28) C dX4_table_15 (by decide) (by omega) (fun c15 => ?_) (fun c15 => ?_)
      · skip
        exfalso; omega
      · skip
        refine g_throw (text := "a table has 6 to 63 cells, in three equal parts") (names := ["java/lang/RuntimeException", "java/lang/Exception"]) (ik := 44) (is := 130) (ic := 48) (sa := sa 130) C hst htab (by decide) (by decide) (by decide +kernel) (by decide +kernel) (hTH.2 (130, "a table has 6 to 63 cells, in three equal parts") (by decide)) ?_ (by decide +kernel) dX4_table_18 dX4_table_21 dX4_table_22 dX4_table_24 dX4_table_27 (by decide) (by decide) (by decide) (by decide) (by decide) (by decide)
        refine vx_hat (fun w h => C.2.2.2.2.1 w ?_) (fun w h => List.mem_flatMap.mpr ⟨(48, "java/lang/IllegalArgumentException", gRE), by simp [gThr4], h⟩) hTH.use
        unfold wsX4_table
        simp only [List.mem_cons, List.mem_append]
        simp only [h, or_true, true_or]
set_option maxHeartbeats 4000000 in
set_option maxRecDepth 100000 in
theorem c_X4_foundValue_thr (l : Launch) (g : gE) (sa : Nat → Nat) (hst : l.stackTraces = false) (a z o h y t : Nat → Nat) (co ky : Nat → Int32) (vl : Nat → Int64) (mk : Nat → Int32) (fs : Nat → Int32) (fl : Nat → Nat) (fv : Nat → Int64) (th fz : Nat) (x : Int32) (hb : hasF fz x = false) : Kx l g sa yX4_foundValue wsX4_foundValue 6 82 1 6 [.ref (a 0), .int x] [(a 0, .inr (5, [.ref (z 0), .ref (o 0), .ref (h 0), .ref (y 0), .ref (t 0)])), (t 0, .inr (3, [.ref (t 1), .ref (t 2), .ref (t 3), .ref (t 4), .ref (t 5), .ref (t 6), .ref (t 7), .int (nI th), .int (nI fz)])), (t 1, gI g 63 co), (t 2, gI g 63 ky), (t 3, gJ g 63 vl), (t 4, gI g 63 mk), (t 5, gI g 256 fs), (t 6, gN g 256 fl), (t 7, gJ g 256 fv)] "java/util/NoSuchElementException" := by
  have hinX4 : ∀ w ∈ wsX40, w ∈ wsX4_foundValue := by
    intro w h
    unfold wsX4_foundValue
    simp only [List.mem_cons, List.mem_append]
    simp only [h, or_true, true_or]
  refine g_enterX (cc := cX4_foundValue) (maxL := 2) (ret := (some .long)) (own := RX4) (L := [(0, .ref (a 0)), (1, .int x)]) (by decide) rfl rfl (Nat.le_of_ble_eq_true rfl) rfl ?_
  intro p e s m args below meth c C htab hTH
  refine g_aload_n C dX4_foundValue_0 rfl 0 rfl ?_
  refine g_get C hinX4 0 rfl rfl 4 (by decide) (by decide +kernel) rfl rfl dX4_foundValue_1 ?_
  refine g_iload_n C dX4_foundValue_4 rfl 1 rfl ?_
  refine g_callV1 (wr := [(a 0, .inr (5, [.ref (z 0), .ref (o 0), .ref (h 0), .ref (y 0), .ref (t 0)]))]) (w2 := [(a 0, .inr (5, [.ref (z 0), .ref (o 0), .ref (h 0), .ref (y 0), .ref (t 0)])), (t 0, .inr (3, [.ref (t 1), .ref (t 2), .ref (t 3), .ref (t 4), .ref (t 5), .ref (t 6), .ref (t 7), .int (nI th), .int (nI fz)])), (t 1, gI g 63 co), (t 2, gI g 63 ky), (t 3, gJ g 63 vl), (t 4, gI g 63 mk), (t 5, gI g 256 fs), (t 6, gN g 256 fl), (t 7, gJ g 256 fv)]) C (c_X2_hasFound l g t co ky vl mk fs fl fv th fz x) (cwV 1 C.2.2.2.2.1 gX4_foundValue_X2_hasFound rfl rfl rfl (by decide +kernel) ⟨Nat.le_of_ble_eq_true rfl, Nat.le_of_ble_eq_true rfl⟩) 1 rfl rfl rfl [1, 2, 3, 4, 5, 6, 7, 8] [0] rfl rfl rfl rfl rfl (by decide) rfl rfl (Nat.le_of_ble_eq_true rfl) dX4_foundValue_5 ⟨Nat.le_of_ble_eq_true rfl, Nat.le_of_ble_eq_true rfl⟩ rfl ?_
  refine g_if_ne_b (tgt := 21) C dX4_foundValue_8 (by decide) (fun c8 => ?_) (fun c8 => ?_)
  · skip
    exact absurd (hb.symm.trans c8) (by decide)
  · skip
    refine g_throw (text := "no such row was found") (names := ["java/lang/RuntimeException", "java/lang/Exception"]) (ik := 99) (is := 159) (ic := 103) (sa := sa 159) C hst htab (by decide) (by decide) (by decide +kernel) (by decide +kernel) (hTH.2 (159, "no such row was found") (by decide)) ?_ (by decide +kernel) dX4_foundValue_11 dX4_foundValue_14 dX4_foundValue_15 dX4_foundValue_17 dX4_foundValue_20 (by decide) (by decide) (by decide) (by decide) (by decide) (by decide)
    refine vx_hat (fun w h => C.2.2.2.2.1 w ?_) (fun w h => List.mem_flatMap.mpr ⟨(103, "java/util/NoSuchElementException", gRE), by simp [gThr4], h⟩) hTH.use
    unfold wsX4_foundValue
    simp only [List.mem_cons, List.mem_append]
    simp only [h, or_true, true_or]
set_option maxHeartbeats 4000000 in
set_option maxRecDepth 100000 in
theorem c_X4_digest_thr (l : Launch) (g : gE) (sa : Nat → Nat) (hst : l.stackTraces = false) (a z o h y t : Nat → Nat) (x y9 z9 : Int32) (hb : (inR x 0 (nI 2) && inR y9 (nI 1) (nI 64) && inR z9 0 (nI 32)) = false) : Kx l g sa yX4_digest wsX4_digestT 7 95 1 6 [.ref (a 0), .int x, .int y9, .int z9] [(a 0, .inr (5, [.ref (z 0), .ref (o 0), .ref (h 0), .ref (y 0), .ref (t 0)]))] "java/lang/ArrayIndexOutOfBoundsException" := by
  refine g_enterX (cc := cX4_digest) (maxL := 4) (ret := (some .int)) (own := RX4) (L := [(0, .ref (a 0)), (1, .int x), (2, .int y9), (3, .int z9)]) (by decide) rfl rfl (Nat.le_of_ble_eq_true rfl) rfl ?_
  intro p e s m args below meth c C htab hTH
  refine g_iload_n C dX4_digest_0 rfl 1 rfl ?_
  refine g_callS1 (wr := [(a 0, .inr (5, [.ref (z 0), .ref (o 0), .ref (h 0), .ref (y 0), .ref (t 0)]))]) (w2 := [(a 0, .inr (5, [.ref (z 0), .ref (o 0), .ref (h 0), .ref (y 0), .ref (t 0)]))]) C (c_X4_isSide l g x) (va_cwS 1 C.2.2.2.2.1 (goodIn_up gX4_digest_X4_isSide inX4_digestT) rfl rfl rfl (by decide +kernel) ⟨Nat.le_of_ble_eq_true rfl, Nat.le_of_ble_eq_true rfl⟩) [] [0] rfl rfl rfl rfl rfl (by decide) rfl rfl (Nat.le_of_ble_eq_true rfl) dX4_digest_1 ⟨Nat.le_of_ble_eq_true rfl, Nat.le_of_ble_eq_true rfl⟩ rfl ?_
  refine g_if_eq_b (tgt := 24) C dX4_digest_4 (by decide) (fun c4 => ?_) (fun c4 => ?_)
  · skip
    refine g_throw (text := "no such side, range or byte") (names := ["java/lang/IndexOutOfBoundsException", "java/lang/RuntimeException", "java/lang/Exception"]) (ik := 167) (is := 169) (ic := 171) (sa := sa 169) C hst htab (by decide) (by decide) (by decide +kernel) (by decide +kernel) (hTH.2 (169, "no such side, range or byte") (by decide)) ?_ (by decide +kernel) dX4_digest_24 dX4_digest_27 dX4_digest_28 dX4_digest_30 dX4_digest_33 (by decide) (by decide) (by decide) (by decide) (by decide) (by decide)
    refine vx_hat (fun w h => C.2.2.2.2.1 w ?_) (fun w h => List.mem_flatMap.mpr ⟨(171, "java/lang/ArrayIndexOutOfBoundsException", "java/lang/IndexOutOfBoundsException" :: gRE), by simp [gThr4], h⟩) hTH.use
    exact List.mem_cons_of_mem _ (List.mem_append_right _ h)
  · skip
    refine g_iload_n C dX4_digest_7 rfl 2 rfl ?_
    refine g_callS1 (wr := [(a 0, .inr (5, [.ref (z 0), .ref (o 0), .ref (h 0), .ref (y 0), .ref (t 0)]))]) (w2 := [(a 0, .inr (5, [.ref (z 0), .ref (o 0), .ref (h 0), .ref (y 0), .ref (t 0)]))]) C (c_X4_isRange l g y9) (va_cwS 1 C.2.2.2.2.1 (goodIn_up gX4_digest_X4_isRange inX4_digestT) rfl rfl rfl (by decide +kernel) ⟨Nat.le_of_ble_eq_true rfl, Nat.le_of_ble_eq_true rfl⟩) [] [0] rfl rfl rfl rfl rfl (by decide) rfl rfl (Nat.le_of_ble_eq_true rfl) dX4_digest_8 ⟨Nat.le_of_ble_eq_true rfl, Nat.le_of_ble_eq_true rfl⟩ rfl ?_
    refine g_if_eq_b (tgt := 24) C dX4_digest_11 (by decide) (fun c11 => ?_) (fun c11 => ?_)
    · skip
      refine g_throw (text := "no such side, range or byte") (names := ["java/lang/IndexOutOfBoundsException", "java/lang/RuntimeException", "java/lang/Exception"]) (ik := 167) (is := 169) (ic := 171) (sa := sa 169) C hst htab (by decide) (by decide) (by decide +kernel) (by decide +kernel) (hTH.2 (169, "no such side, range or byte") (by decide)) ?_ (by decide +kernel) dX4_digest_24 dX4_digest_27 dX4_digest_28 dX4_digest_30 dX4_digest_33 (by decide) (by decide) (by decide) (by decide) (by decide) (by decide)
      refine vx_hat (fun w h => C.2.2.2.2.1 w ?_) (fun w h => List.mem_flatMap.mpr ⟨(171, "java/lang/ArrayIndexOutOfBoundsException", "java/lang/IndexOutOfBoundsException" :: gRE), by simp [gThr4], h⟩) hTH.use
      exact List.mem_cons_of_mem _ (List.mem_append_right _ h)
    · skip
      refine g_iload_n C dX4_digest_14 rfl 3 rfl ?_
      refine g_if_lt (tgt := 24) C dX4_digest_15 (by decide) (fun c15 => ?_) (fun c15 => ?_)
      · skip
        refine g_throw (text := "no such side, range or byte") (names := ["java/lang/IndexOutOfBoundsException", "java/lang/RuntimeException", "java/lang/Exception"]) (ik := 167) (is := 169) (ic := 171) (sa := sa 169) C hst htab (by decide) (by decide) (by decide +kernel) (by decide +kernel) (hTH.2 (169, "no such side, range or byte") (by decide)) ?_ (by decide +kernel) dX4_digest_24 dX4_digest_27 dX4_digest_28 dX4_digest_30 dX4_digest_33 (by decide) (by decide) (by decide) (by decide) (by decide) (by decide)
        refine vx_hat (fun w h => C.2.2.2.2.1 w ?_) (fun w h => List.mem_flatMap.mpr ⟨(171, "java/lang/ArrayIndexOutOfBoundsException", "java/lang/IndexOutOfBoundsException" :: gRE), by simp [gThr4], h⟩) hTH.use
        exact List.mem_cons_of_mem _ (List.mem_append_right _ h)
      · skip
        refine g_iload_n C dX4_digest_18 rfl 3 rfl ?_
        refine g_bipush (v := nI 32) C dX4_digest_19 (by decide) ?_
        refine g_icmp_lt (tgt := 34) C dX4_digest_21 (by decide) (fun c21 => ?_) (fun c21 => ?_)
        · skip
          have h9 : inR z9 0 (nI 32) = true := by simp [inR, c15, Int32.not_le.mpr c21]
          rw [c4, c11, h9] at hb
          cases hb
        · skip
          refine g_throw (text := "no such side, range or byte") (names := ["java/lang/IndexOutOfBoundsException", "java/lang/RuntimeException", "java/lang/Exception"]) (ik := 167) (is := 169) (ic := 171) (sa := sa 169) C hst htab (by decide) (by decide) (by decide +kernel) (by decide +kernel) (hTH.2 (169, "no such side, range or byte") (by decide)) ?_ (by decide +kernel) dX4_digest_24 dX4_digest_27 dX4_digest_28 dX4_digest_30 dX4_digest_33 (by decide) (by decide) (by decide) (by decide) (by decide) (by decide)
          refine vx_hat (fun w h => C.2.2.2.2.1 w ?_) (fun w h => List.mem_flatMap.mpr ⟨(171, "java/lang/ArrayIndexOutOfBoundsException", "java/lang/IndexOutOfBoundsException" :: gRE), by simp [gThr4], h⟩) hTH.use
          exact List.mem_cons_of_mem _ (List.mem_append_right _ h)
set_option maxHeartbeats 4000000 in
set_option maxRecDepth 100000 in
theorem c_X4_sum_thr (l : Launch) (g : gE) (sa : Nat → Nat) (hst : l.stackTraces = false) (a z o h y t : Nat → Nat) (x y9 : Int32) (hb : (inR x 0 (nI 2) && inR y9 (nI 1) (nI 64)) = false) : Kx l g sa yX4_sum wsX4_sumT 7 95 1 6 [.ref (a 0), .int x, .int y9] [(a 0, .inr (5, [.ref (z 0), .ref (o 0), .ref (h 0), .ref (y 0), .ref (t 0)]))] "java/lang/ArrayIndexOutOfBoundsException" := by
  refine g_enterX (cc := cX4_sum) (maxL := 3) (ret := (some .int)) (own := RX4) (L := [(0, .ref (a 0)), (1, .int x), (2, .int y9)]) (by decide) rfl rfl (Nat.le_of_ble_eq_true rfl) rfl ?_
  intro p e s m args below meth c C htab hTH
  refine g_iload_n C dX4_sum_0 rfl 1 rfl ?_
  refine g_callS1 (wr := [(a 0, .inr (5, [.ref (z 0), .ref (o 0), .ref (h 0), .ref (y 0), .ref (t 0)]))]) (w2 := [(a 0, .inr (5, [.ref (z 0), .ref (o 0), .ref (h 0), .ref (y 0), .ref (t 0)]))]) C (c_X4_isSide l g x) (va_cwS 1 C.2.2.2.2.1 (goodIn_up gX4_sum_X4_isSide inX4_sumT) rfl rfl rfl (by decide +kernel) ⟨Nat.le_of_ble_eq_true rfl, Nat.le_of_ble_eq_true rfl⟩) [] [0] rfl rfl rfl rfl rfl (by decide) rfl rfl (Nat.le_of_ble_eq_true rfl) dX4_sum_1 ⟨Nat.le_of_ble_eq_true rfl, Nat.le_of_ble_eq_true rfl⟩ rfl ?_
  refine g_if_eq_b (tgt := 14) C dX4_sum_4 (by decide) (fun c4 => ?_) (fun c4 => ?_)
  · skip
    refine g_throw (text := "no such side or range") (names := ["java/lang/IndexOutOfBoundsException", "java/lang/RuntimeException", "java/lang/Exception"]) (ik := 167) (is := 175) (ic := 171) (sa := sa 175) C hst htab (by decide) (by decide) (by decide +kernel) (by decide +kernel) (hTH.2 (175, "no such side or range") (by decide)) ?_ (by decide +kernel) dX4_sum_14 dX4_sum_17 dX4_sum_18 dX4_sum_20 dX4_sum_23 (by decide) (by decide) (by decide) (by decide) (by decide) (by decide)
    refine vx_hat (fun w h => C.2.2.2.2.1 w ?_) (fun w h => List.mem_flatMap.mpr ⟨(171, "java/lang/ArrayIndexOutOfBoundsException", "java/lang/IndexOutOfBoundsException" :: gRE), by simp [gThr4], h⟩) hTH.use
    exact List.mem_cons_of_mem _ (List.mem_append_right _ h)
  · skip
    refine g_iload_n C dX4_sum_7 rfl 2 rfl ?_
    refine g_callS1 (wr := [(a 0, .inr (5, [.ref (z 0), .ref (o 0), .ref (h 0), .ref (y 0), .ref (t 0)]))]) (w2 := [(a 0, .inr (5, [.ref (z 0), .ref (o 0), .ref (h 0), .ref (y 0), .ref (t 0)]))]) C (c_X4_isRange l g y9) (va_cwS 1 C.2.2.2.2.1 (goodIn_up gX4_sum_X4_isRange inX4_sumT) rfl rfl rfl (by decide +kernel) ⟨Nat.le_of_ble_eq_true rfl, Nat.le_of_ble_eq_true rfl⟩) [] [0] rfl rfl rfl rfl rfl (by decide) rfl rfl (Nat.le_of_ble_eq_true rfl) dX4_sum_8 ⟨Nat.le_of_ble_eq_true rfl, Nat.le_of_ble_eq_true rfl⟩ rfl ?_
    refine g_if_ne_b (tgt := 24) C dX4_sum_11 (by decide) (fun c11 => ?_) (fun c11 => ?_)
    · skip
      rw [c4, c11] at hb; cases hb
    · skip
      refine g_throw (text := "no such side or range") (names := ["java/lang/IndexOutOfBoundsException", "java/lang/RuntimeException", "java/lang/Exception"]) (ik := 167) (is := 175) (ic := 171) (sa := sa 175) C hst htab (by decide) (by decide) (by decide +kernel) (by decide +kernel) (hTH.2 (175, "no such side or range") (by decide)) ?_ (by decide +kernel) dX4_sum_14 dX4_sum_17 dX4_sum_18 dX4_sum_20 dX4_sum_23 (by decide) (by decide) (by decide) (by decide) (by decide) (by decide)
      refine vx_hat (fun w h => C.2.2.2.2.1 w ?_) (fun w h => List.mem_flatMap.mpr ⟨(171, "java/lang/ArrayIndexOutOfBoundsException", "java/lang/IndexOutOfBoundsException" :: gRE), by simp [gThr4], h⟩) hTH.use
      exact List.mem_cons_of_mem _ (List.mem_append_right _ h)
