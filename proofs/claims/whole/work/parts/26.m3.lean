set_option maxHeartbeats 4000000 in
set_option maxRecDepth 100000 in
theorem c_X5_row (l : Launch) (g : gE) (a : Nat → Nat) (th : Int32) (wk : Bool) (ro : Int32) (lo ne di : Nat) (ta : Bool) (ce fo bt : Nat) (tr : Nat → Bool) (vw : Nat → Int64) (kw : Nat → Bool) (kv : Nat → Int64) (fr : Nat → Bool) (sd n u : Nat) (v : Int64) (hs1 : sd < 2) (hn : n < 4) (hu : 1 ≤ u) (hu2 : u ≤ 64) : Kt l g yX5_row wsX5_row 2 48 0 0 [.ref (a 0), .int (nI sd), .int (nI n), .int (nI u), .long v] [(a 0, oM a th (bI wk) ro (nI lo) (nI ne) (nI di) (bI ta) (nI ce) (nI fo) (nI bt)), (a 3, gZ g 512 tr), (a 4, gJ g 512 vw), (a 5, gZ g 512 kw), (a 6, gJ g 512 kv), (a 7, gZ g 2 fr)] (kR (some (.int (nI (cntR (va_up tr (256 * sd + 64 * n + u - 1) true) (256 * sd) 256)))) [(a 0, oM a (nI 0) (bI wk) ro (nI lo) (nI ne) (nI di) (bI ta) (nI ce) (nI fo) (nI bt)), (a 3, gZ g 512 (va_up tr (256 * sd + 64 * n + u - 1) true)), (a 4, gJ g 512 (va_up vw (256 * sd + 64 * n + u - 1) v)), (a 5, gZ g 512 (lnK (va_up tr (256 * sd + 64 * n + u - 1) true) kw (256 * sd + (64 * n + (u - 1) / 8 * 8)) 8)), (a 6, gJ g 512 (lnV (va_up vw (256 * sd + 64 * n + u - 1) v) kv (256 * sd + (64 * n + (u - 1) / 8 * 8)) 8)), (a 7, gZ g 2 (va_up fr sd false))]) := by
  have hinX5 : ∀ w ∈ wsX50, w ∈ wsX5_row := by
    intro w h
    unfold wsX5_row
    simp only [List.mem_cons, List.mem_append]
    simp only [h, or_true, true_or]
  refine g_enter (cc := cX5_row) (maxL := 8) (ret := (some .int)) (own := RX5) (L := [(0, .ref (a 0)), (1, .int (nI sd)), (2, .int (nI n)), (3, .int (nI u)), (4, .long v)]) (by decide) rfl rfl (Nat.le_of_ble_eq_true rfl) rfl ?_
  intro p e s m args below meth c hin0 C
  refine g_iload_n C dX5_row_0 rfl 1 rfl ?_
  refine g_iload_n C dX5_row_1 rfl 2 rfl ?_
  refine g_iload_n C dX5_row_2 rfl 3 rfl ?_
  refine g_callS1 (wr := [(a 0, oM a th (bI wk) ro (nI lo) (nI ne) (nI di) (bI ta) (nI ce) (nI fo) (nI bt)), (a 3, gZ g 512 tr), (a 4, gJ g 512 vw), (a 5, gZ g 512 kw), (a 6, gJ g 512 kv), (a 7, gZ g 2 fr)]) (w2 := [(a 0, oM a th (bI wk) ro (nI lo) (nI ne) (nI di) (bI ta) (nI ce) (nI fo) (nI bt)), (a 3, gZ g 512 tr), (a 4, gJ g 512 vw), (a 5, gZ g 512 kw), (a 6, gJ g 512 kv), (a 7, gZ g 2 fr)]) C (c_X5_isPlace l g (nI sd) (nI n) (nI u)) (va_cwS 3 C.2.2.2.2.1 gX5_row_X5_isPlace rfl rfl rfl (by decide +kernel) ⟨Nat.le_of_ble_eq_true rfl, Nat.le_of_ble_eq_true rfl⟩) [] [0, 1, 2, 3, 4, 5] rfl rfl rfl rfl rfl (by decide) rfl rfl (Nat.le_of_ble_eq_true rfl) dX5_row_3 ⟨Nat.le_of_ble_eq_true rfl, Nat.le_of_ble_eq_true rfl⟩ rfl ?_
  refine g_if_ne_b (tgt := 14) C dX5_row_6 (by decide) (fun c6 => ?_) (fun c6 => ?_)
  · skip
    refine g_aload_n C dX5_row_14 rfl 0 rfl ?_
    refine g_iconst (v := nI 0) C dX5_row_15 (by decide) ?_
    refine g_put (ty := .int) (w2 := [(a 0, oM a (nI 0) (bI wk) ro (nI lo) (nI ne) (nI di) (bI ta) (nI ce) (nI fo) (nI bt)), (a 3, gZ g 512 tr), (a 4, gJ g 512 vw), (a 5, gZ g 512 kw), (a 6, gJ g 512 kv), (a 7, gZ g 2 fr)]) C hinX5 0 rfl rfl 0 (by decide) (by decide +kernel) rfl tyX5 tyX5_ok nmX5 rfl (by decide +kernel) rfl rfl (Nat.le_of_ble_eq_true rfl) rfl dX5_row_16 ?_
    refine g_aload_n C dX5_row_19 rfl 0 rfl ?_
    refine g_get C hinX5 0 rfl rfl 2 (by decide) (by decide +kernel) rfl rfl dX5_row_20 ?_
    refine g_iload_n C dX5_row_23 rfl 1 rfl ?_
    refine g_iload_n C dX5_row_24 rfl 2 rfl ?_
    refine g_iload_n C dX5_row_25 rfl 3 rfl ?_
    refine g_callS1 (wr := [(a 0, oM a (nI 0) (bI wk) ro (nI lo) (nI ne) (nI di) (bI ta) (nI ce) (nI fo) (nI bt)), (a 3, gZ g 512 tr), (a 4, gJ g 512 vw), (a 5, gZ g 512 kw), (a 6, gJ g 512 kv), (a 7, gZ g 2 fr)]) (w2 := [(a 0, oM a (nI 0) (bI wk) ro (nI lo) (nI ne) (nI di) (bI ta) (nI ce) (nI fo) (nI bt)), (a 3, gZ g 512 tr), (a 4, gJ g 512 vw), (a 5, gZ g 512 kw), (a 6, gJ g 512 kv), (a 7, gZ g 2 fr)]) C (c_X5_at l g sd n u (by omega) (by omega) (by omega) (by omega)) (va_cwS 3 C.2.2.2.2.1 gX5_row_X5_at rfl rfl rfl (by decide +kernel) ⟨Nat.le_of_ble_eq_true rfl, Nat.le_of_ble_eq_true rfl⟩) [] [0, 1, 2, 3, 4, 5] rfl rfl rfl rfl rfl (by decide) rfl rfl (Nat.le_of_ble_eq_true rfl) dX5_row_26 ⟨Nat.le_of_ble_eq_true rfl, Nat.le_of_ble_eq_true rfl⟩ rfl ?_
    refine g_iconst (v := nI 1) C dX5_row_29 (by decide) ?_
    refine g_st (st2 := [.int (bI true), .int (nI (256 * sd + 64 * n + u - 1)), .ref (a 3)]) rfl ?_
    refine g_zast (w2 := [(a 0, oM a (nI 0) (bI wk) ro (nI lo) (nI ne) (nI di) (bI ta) (nI ce) (nI fo) (nI bt)), (a 3, gZ g 512 (va_up tr (256 * sd + 64 * n + u - 1) true)), (a 4, gJ g 512 vw), (a 5, gZ g 512 kw), (a 6, gJ g 512 kv), (a 7, gZ g 2 fr)]) C 1 rfl (by omega) (by decide) rfl dX5_row_30 ?_
    refine g_aload_n C dX5_row_31 rfl 0 rfl ?_
    refine g_get C hinX5 0 rfl rfl 3 (by decide) (by decide +kernel) rfl rfl dX5_row_32 ?_
    refine g_iload_n C dX5_row_35 rfl 1 rfl ?_
    refine g_iload_n C dX5_row_36 rfl 2 rfl ?_
    refine g_iload_n C dX5_row_37 rfl 3 rfl ?_
    refine g_callS1 (wr := [(a 0, oM a (nI 0) (bI wk) ro (nI lo) (nI ne) (nI di) (bI ta) (nI ce) (nI fo) (nI bt)), (a 3, gZ g 512 (va_up tr (256 * sd + 64 * n + u - 1) true)), (a 4, gJ g 512 vw), (a 5, gZ g 512 kw), (a 6, gJ g 512 kv), (a 7, gZ g 2 fr)]) (w2 := [(a 0, oM a (nI 0) (bI wk) ro (nI lo) (nI ne) (nI di) (bI ta) (nI ce) (nI fo) (nI bt)), (a 3, gZ g 512 (va_up tr (256 * sd + 64 * n + u - 1) true)), (a 4, gJ g 512 vw), (a 5, gZ g 512 kw), (a 6, gJ g 512 kv), (a 7, gZ g 2 fr)]) C (c_X5_at l g sd n u (by omega) (by omega) (by omega) (by omega)) (va_cwS 3 C.2.2.2.2.1 gX5_row_X5_at rfl rfl rfl (by decide +kernel) ⟨Nat.le_of_ble_eq_true rfl, Nat.le_of_ble_eq_true rfl⟩) [] [0, 1, 2, 3, 4, 5] rfl rfl rfl rfl rfl (by decide) rfl rfl (Nat.le_of_ble_eq_true rfl) dX5_row_38 ⟨Nat.le_of_ble_eq_true rfl, Nat.le_of_ble_eq_true rfl⟩ rfl ?_
    refine g_lload C dX5_row_41 4 rfl ?_
    refine g_last (w2 := [(a 0, oM a (nI 0) (bI wk) ro (nI lo) (nI ne) (nI di) (bI ta) (nI ce) (nI fo) (nI bt)), (a 3, gZ g 512 (va_up tr (256 * sd + 64 * n + u - 1) true)), (a 4, gJ g 512 (va_up vw (256 * sd + 64 * n + u - 1) v)), (a 5, gZ g 512 kw), (a 6, gJ g 512 kv), (a 7, gZ g 2 fr)]) C 2 rfl (by omega) (by decide) rfl dX5_row_43 ?_
    refine g_aload_n C dX5_row_44 rfl 0 rfl ?_
    refine g_iload_n C dX5_row_45 rfl 1 rfl ?_
    refine g_iload_n C dX5_row_46 rfl 2 rfl ?_
    refine g_iload_n C dX5_row_47 rfl 3 rfl ?_
    refine g_callV0 (wr := []) (w2 := [(a 0, oM a (nI 0) (bI wk) ro (nI lo) (nI ne) (nI di) (bI ta) (nI ce) (nI fo) (nI bt)), (a 3, gZ g 512 (va_up tr (256 * sd + 64 * n + u - 1) true)), (a 4, gJ g 512 (va_up vw (256 * sd + 64 * n + u - 1) v)), (a 5, gZ g 512 (lnK (va_up tr (256 * sd + 64 * n + u - 1) true) kw (256 * sd + (64 * n + (u - 1) / 8 * 8)) 8)), (a 6, gJ g 512 (lnV (va_up vw (256 * sd + 64 * n + u - 1) v) kv (256 * sd + (64 * n + (u - 1) / 8 * 8)) 8)), (a 7, gZ g 2 (va_up fr sd false))]) C (c_X5_learnLeaf l g a (nI 0) wk ro lo ne di ta ce fo bt (va_up tr (256 * sd + 64 * n + u - 1) true) (va_up vw (256 * sd + 64 * n + u - 1) v) kw kv fr sd n u (by omega) (by omega) (by omega) (by omega)) (cwV 3 C.2.2.2.2.1 gX5_row_X5_learnLeaf rfl rfl rfl (by decide +kernel) ⟨Nat.le_of_ble_eq_true rfl, Nat.le_of_ble_eq_true rfl⟩) 0 rfl rfl rfl [0, 1, 2, 3, 4, 5] [] rfl rfl rfl rfl rfl (by decide) rfl rfl (Nat.le_of_ble_eq_true rfl) dX5_row_48 ⟨Nat.le_of_ble_eq_true rfl, Nat.le_of_ble_eq_true rfl⟩ rfl ?_
    refine g_iconst (v := nI 0) C dX5_row_51 (by decide) ?_
    refine g_istore (L' := [(6, .int (nI 0)), (0, .ref (a 0)), (1, .int (nI sd)), (2, .int (nI n)), (3, .int (nI u)), (4, .long v)]) C dX5_row_52 (by decide) rfl ?_
    refine g_iconst (v := nI 0) C dX5_row_54 (by decide) ?_
    refine g_istore (L' := [(7, .int (nI 0)), (6, .int (nI 0)), (0, .ref (a 0)), (1, .int (nI sd)), (2, .int (nI n)), (3, .int (nI u)), (4, .long v)]) C dX5_row_55 (by decide) rfl ?_
    refine g_up 256 0 (fun _ => True) (fun j => [(7, .int (nI j)), (6, .int (nI (cntR (va_up tr (256 * sd + 64 * n + u - 1) true) (256 * sd) j))), (0, .ref (a 0)), (1, .int (nI sd)), (2, .int (nI n)), (3, .int (nI u)), (4, .long v)]) (fun j => [(a 0, oM a (nI 0) (bI wk) ro (nI lo) (nI ne) (nI di) (bI ta) (nI ce) (nI fo) (nI bt)), (a 3, gZ g 512 (va_up tr (256 * sd + 64 * n + u - 1) true)), (a 4, gJ g 512 (va_up vw (256 * sd + 64 * n + u - 1) v)), (a 5, gZ g 512 (lnK (va_up tr (256 * sd + 64 * n + u - 1) true) kw (256 * sd + (64 * n + (u - 1) / 8 * 8)) 8)), (a 6, gJ g 512 (lnV (va_up vw (256 * sd + 64 * n + u - 1) v) kv (256 * sd + (64 * n + (u - 1) / 8 * 8)) 8)), (a 7, gZ g 2 (va_up fr sd false))]) (by omega) (trivial) ?_ ?_
    · intro hPj
      try dsimp only
      refine g_iload C dX5_row_57 0 rfl ?_
      refine g_sipush (v := nI 256) C dX5_row_59 (by decide) ?_
      refine g_icmp_ge_n (tgt := 97) C dX5_row_62 (by decide) (by omega) (by omega) (fun c62 => ?_) (fun c62 => ?_)
      · skip
        refine g_iload C dX5_row_97 1 rfl ?_
        refine g_iret C dX5_row_99 (by decide) (by decide) ?_
        exact ⟨rfl, rfl⟩
      · skip
        exfalso; omega
    · intro j hlj huj hPj ihj
      try dsimp only at ihj ⊢
      refine g_iload C dX5_row_57 0 rfl ?_
      refine g_sipush (v := nI 256) C dX5_row_59 (by decide) ?_
      refine g_icmp_ge_n (tgt := 97) C dX5_row_62 (by decide) (by omega) (by omega) (fun c62 => ?_) (fun c62 => ?_)
      · skip
        exfalso; omega
      · skip
        refine g_iload C dX5_row_65 1 rfl ?_
        refine g_aload_n C dX5_row_67 rfl 2 rfl ?_
        refine g_get C hinX5 0 rfl rfl 2 (by decide) (by decide +kernel) rfl rfl dX5_row_68 ?_
        refine g_sipush (v := nI 256) C dX5_row_71 (by decide) ?_
        refine g_iload_n C dX5_row_74 rfl 3 rfl ?_
        refine g_imul_n C dX5_row_75 ?_
        refine g_iload C dX5_row_76 0 rfl ?_
        refine g_iadd_n C dX5_row_78 ?_
        refine g_zald C 1 rfl (by omega) (by decide) dX5_row_79 ?_
        refine g_if_eq_b (tgt := 87) C dX5_row_80 (by decide) (fun c80 => ?_) (fun c80 => ?_)
        · skip
          rw [cntR_f c80] at ihj
          refine g_iconst (v := nI 0) C dX5_row_87 (by decide) ?_
          refine g_iadd_n C dX5_row_88 ?_
          refine g_istore (L' := [(6, .int (nI ((cntR (va_up tr (256 * sd + 64 * n + u - 1) true) (256 * sd) j) + 0))), (7, .int (nI j)), (0, .ref (a 0)), (1, .int (nI sd)), (2, .int (nI n)), (3, .int (nI u)), (4, .long v)]) C dX5_row_89 (by decide) rfl ?_
          refine g_iinc_n (d := 1) (L' := [(7, .int (nI (j + 1))), (6, .int (nI ((cntR (va_up tr (256 * sd + 64 * n + u - 1) true) (256 * sd) j) + 0))), (0, .ref (a 0)), (1, .int (nI sd)), (2, .int (nI n)), (3, .int (nI u)), (4, .long v)]) C dX5_row_91 1 rfl (by decide) (by decide) rfl ?_
          refine g_goto (tgt := 57) C dX5_row_94 (by decide) ?_
          exact ihj (trivial)
        · skip
          rw [cntR_t c80] at ihj
          refine g_iconst (v := nI 1) C dX5_row_83 (by decide) ?_
          refine g_goto (tgt := 88) C dX5_row_84 (by decide) ?_
          refine g_iadd_n C dX5_row_88 ?_
          refine g_istore (L' := [(6, .int (nI ((cntR (va_up tr (256 * sd + 64 * n + u - 1) true) (256 * sd) j) + 1))), (7, .int (nI j)), (0, .ref (a 0)), (1, .int (nI sd)), (2, .int (nI n)), (3, .int (nI u)), (4, .long v)]) C dX5_row_89 (by decide) rfl ?_
          refine g_iinc_n (d := 1) (L' := [(7, .int (nI (j + 1))), (6, .int (nI ((cntR (va_up tr (256 * sd + 64 * n + u - 1) true) (256 * sd) j) + 1))), (0, .ref (a 0)), (1, .int (nI sd)), (2, .int (nI n)), (3, .int (nI u)), (4, .long v)]) C dX5_row_91 1 rfl (by decide) (by decide) rfl ?_
          refine g_goto (tgt := 57) C dX5_row_94 (by decide) ?_
          exact ihj (trivial)
  · skip
    exact absurd (c6.symm.trans (isPl_n hs1 hn hu hu2)) (by decide)
set_option maxHeartbeats 4000000 in
set_option maxRecDepth 100000 in
theorem c_X5_row_bad (l : Launch) (g : gE) (a : Nat → Nat) (th : Int32) (wk : Bool) (ro : Int32) (lo ne di : Nat) (ta : Bool) (ce fo bt : Nat) (x y z : Int32) (v : Int64) (hb : (wiN x (nI 0) (nI 1) && wiN y (nI 0) (nI 3) && wiN z (nI 1) (nI 64)) = false) : Kt l g yX5_row wsX5_row 2 44 0 0 [.ref (a 0), .int x, .int y, .int z, .long v] [(a 0, oM a th (bI wk) ro (nI lo) (nI ne) (nI di) (bI ta) (nI ce) (nI fo) (nI bt))] (kR (some (.int (nI 0))) [(a 0, oM a (nI 1) (bI wk) ro (nI lo) (nI ne) (nI di) (bI ta) (nI ce) (nI fo) (nI bt))]) := by
  refine g_enter (cc := cX5_row) (maxL := 8) (ret := (some .int)) (own := RX5) (L := [(0, .ref (a 0)), (1, .int x), (2, .int y), (3, .int z), (4, .long v)]) (by decide) rfl rfl (Nat.le_of_ble_eq_true rfl) rfl ?_
  intro p e s m args below meth c hin0 C
  refine g_iload_n C dX5_row_0 rfl 1 rfl ?_
  refine g_iload_n C dX5_row_1 rfl 2 rfl ?_
  refine g_iload_n C dX5_row_2 rfl 3 rfl ?_
  refine g_callS1 (wr := [(a 0, oM a th (bI wk) ro (nI lo) (nI ne) (nI di) (bI ta) (nI ce) (nI fo) (nI bt))]) (w2 := [(a 0, oM a th (bI wk) ro (nI lo) (nI ne) (nI di) (bI ta) (nI ce) (nI fo) (nI bt))]) C (c_X5_isPlace l g x y z) (va_cwS 3 C.2.2.2.2.1 gX5_row_X5_isPlace rfl rfl rfl (by decide +kernel) ⟨Nat.le_of_ble_eq_true rfl, Nat.le_of_ble_eq_true rfl⟩) [] [0] rfl rfl rfl rfl rfl (by decide) rfl rfl (Nat.le_of_ble_eq_true rfl) dX5_row_3 ⟨Nat.le_of_ble_eq_true rfl, Nat.le_of_ble_eq_true rfl⟩ rfl ?_
  refine g_if_ne_b (tgt := 14) C dX5_row_6 (by decide) (fun c6 => ?_) (fun c6 => ?_)
  · skip
    exact absurd (hb.symm.trans c6) (by decide)
  · skip
    refine g_aload_n C dX5_row_9 rfl 0 rfl ?_
    refine g_callV1 (wr := []) (w2 := [(a 0, oM a (nI 1) (bI wk) ro (nI lo) (nI ne) (nI di) (bI ta) (nI ce) (nI fo) (nI bt))]) C (c_X5_raise l g a th wk ro lo ne di ta ce fo bt) (cwV 0 C.2.2.2.2.1 gX5_row_X5_raise rfl rfl rfl (by decide +kernel) ⟨Nat.le_of_ble_eq_true rfl, Nat.le_of_ble_eq_true rfl⟩) 0 rfl rfl rfl [0] [] rfl rfl rfl rfl rfl (by decide) rfl rfl (Nat.le_of_ble_eq_true rfl) dX5_row_10 ⟨Nat.le_of_ble_eq_true rfl, Nat.le_of_ble_eq_true rfl⟩ rfl ?_
    refine g_iret C dX5_row_13 (by decide) (by decide) ?_
    exact ⟨rfl, rfl⟩
set_option maxHeartbeats 4000000 in
set_option maxRecDepth 100000 in
theorem c_X5_isRow (l : Launch) (g : gE) (a : Nat → Nat) (th : Int32) (wk : Bool) (ro : Int32) (lo ne di : Nat) (ta : Bool) (ce fo bt : Nat) (tr : Nat → Bool) (sd n u : Nat) (hs1 : sd < 2) (hn : n < 4) (hu : 1 ≤ u) (hu2 : u ≤ 64) : Kt l g yX5_isRow wsX5_isRow 2 44 0 0 [.ref (a 0), .int (nI sd), .int (nI n), .int (nI u)] [(a 0, oM a th (bI wk) ro (nI lo) (nI ne) (nI di) (bI ta) (nI ce) (nI fo) (nI bt)), (a 3, gZ g 512 tr)] (kR (some (.int (bI (tr (256 * sd + 64 * n + u - 1))))) [(a 0, oM a th (bI wk) ro (nI lo) (nI ne) (nI di) (bI ta) (nI ce) (nI fo) (nI bt)), (a 3, gZ g 512 tr)]) := by
  have hinX5 : ∀ w ∈ wsX50, w ∈ wsX5_isRow := by
    intro w h
    unfold wsX5_isRow
    simp only [List.mem_cons, List.mem_append]
    simp only [h, or_true, true_or]
  refine g_enter (cc := cX5_isRow) (maxL := 4) (ret := (some .boolean)) (own := RX5) (L := [(0, .ref (a 0)), (1, .int (nI sd)), (2, .int (nI n)), (3, .int (nI u))]) (by decide) rfl rfl (Nat.le_of_ble_eq_true rfl) rfl ?_
  intro p e s m args below meth c hin0 C
  refine g_iload_n C dX5_isRow_0 rfl 1 rfl ?_
  refine g_iload_n C dX5_isRow_1 rfl 2 rfl ?_
  refine g_iload_n C dX5_isRow_2 rfl 3 rfl ?_
  refine g_callS1 (wr := [(a 0, oM a th (bI wk) ro (nI lo) (nI ne) (nI di) (bI ta) (nI ce) (nI fo) (nI bt)), (a 3, gZ g 512 tr)]) (w2 := [(a 0, oM a th (bI wk) ro (nI lo) (nI ne) (nI di) (bI ta) (nI ce) (nI fo) (nI bt)), (a 3, gZ g 512 tr)]) C (c_X5_isPlace l g (nI sd) (nI n) (nI u)) (va_cwS 3 C.2.2.2.2.1 gX5_isRow_X5_isPlace rfl rfl rfl (by decide +kernel) ⟨Nat.le_of_ble_eq_true rfl, Nat.le_of_ble_eq_true rfl⟩) [] [0, 1] rfl rfl rfl rfl rfl (by decide) rfl rfl (Nat.le_of_ble_eq_true rfl) dX5_isRow_3 ⟨Nat.le_of_ble_eq_true rfl, Nat.le_of_ble_eq_true rfl⟩ rfl ?_
  refine g_if_eq_b (tgt := 27) C dX5_isRow_6 (by decide) (fun c6 => ?_) (fun c6 => ?_)
  · skip
    exact absurd (c6.symm.trans (isPl_n hs1 hn hu hu2)) (by decide)
  · skip
    refine g_aload_n C dX5_isRow_9 rfl 0 rfl ?_
    refine g_get C hinX5 0 rfl rfl 2 (by decide) (by decide +kernel) rfl rfl dX5_isRow_10 ?_
    refine g_iload_n C dX5_isRow_13 rfl 1 rfl ?_
    refine g_iload_n C dX5_isRow_14 rfl 2 rfl ?_
    refine g_iload_n C dX5_isRow_15 rfl 3 rfl ?_
    refine g_callS1 (wr := [(a 0, oM a th (bI wk) ro (nI lo) (nI ne) (nI di) (bI ta) (nI ce) (nI fo) (nI bt)), (a 3, gZ g 512 tr)]) (w2 := [(a 0, oM a th (bI wk) ro (nI lo) (nI ne) (nI di) (bI ta) (nI ce) (nI fo) (nI bt)), (a 3, gZ g 512 tr)]) C (c_X5_at l g sd n u (by omega) (by omega) (by omega) (by omega)) (va_cwS 3 C.2.2.2.2.1 gX5_isRow_X5_at rfl rfl rfl (by decide +kernel) ⟨Nat.le_of_ble_eq_true rfl, Nat.le_of_ble_eq_true rfl⟩) [] [0, 1] rfl rfl rfl rfl rfl (by decide) rfl rfl (Nat.le_of_ble_eq_true rfl) dX5_isRow_16 ⟨Nat.le_of_ble_eq_true rfl, Nat.le_of_ble_eq_true rfl⟩ rfl ?_
    refine g_zald C 1 rfl (by omega) (by decide) dX5_isRow_19 ?_
    refine g_if_eq_b (tgt := 27) C dX5_isRow_20 (by decide) (fun c20 => ?_) (fun c20 => ?_)
    · skip
      refine g_iconst (v := nI 0) C dX5_isRow_27 (by decide) ?_
      refine g_st (st2 := [.int (bI false)]) rfl ?_
      refine g_zret C dX5_isRow_28 (by decide) (by decide) ?_
      refine ⟨congrArg (fun b => some (Value.int (bI b))) ?_, rfl⟩
      exact c20.symm
    · skip
      refine g_iconst (v := nI 1) C dX5_isRow_23 (by decide) ?_
      refine g_goto (tgt := 28) C dX5_isRow_24 (by decide) ?_
      refine g_st (st2 := [.int (bI true)]) rfl ?_
      refine g_zret C dX5_isRow_28 (by decide) (by decide) ?_
      refine ⟨congrArg (fun b => some (Value.int (bI b))) ?_, rfl⟩
      exact c20.symm
set_option maxHeartbeats 4000000 in
set_option maxRecDepth 100000 in
theorem c_X5_isRow_bad (l : Launch) (g : gE) (a : Nat → Nat) (th : Int32) (wk : Bool) (ro : Int32) (lo ne di : Nat) (ta : Bool) (ce fo bt : Nat) (x y z : Int32) (hb : (wiN x (nI 0) (nI 1) && wiN y (nI 0) (nI 3) && wiN z (nI 1) (nI 64)) = false) : Kt l g yX5_isRow wsX5_isRow 2 44 0 0 [.ref (a 0), .int x, .int y, .int z] [(a 0, oM a th (bI wk) ro (nI lo) (nI ne) (nI di) (bI ta) (nI ce) (nI fo) (nI bt))] (kR (some (.int (bI false))) [(a 0, oM a th (bI wk) ro (nI lo) (nI ne) (nI di) (bI ta) (nI ce) (nI fo) (nI bt))]) := by
  refine g_enter (cc := cX5_isRow) (maxL := 4) (ret := (some .boolean)) (own := RX5) (L := [(0, .ref (a 0)), (1, .int x), (2, .int y), (3, .int z)]) (by decide) rfl rfl (Nat.le_of_ble_eq_true rfl) rfl ?_
  intro p e s m args below meth c hin0 C
  refine g_iload_n C dX5_isRow_0 rfl 1 rfl ?_
  refine g_iload_n C dX5_isRow_1 rfl 2 rfl ?_
  refine g_iload_n C dX5_isRow_2 rfl 3 rfl ?_
  refine g_callS1 (wr := [(a 0, oM a th (bI wk) ro (nI lo) (nI ne) (nI di) (bI ta) (nI ce) (nI fo) (nI bt))]) (w2 := [(a 0, oM a th (bI wk) ro (nI lo) (nI ne) (nI di) (bI ta) (nI ce) (nI fo) (nI bt))]) C (c_X5_isPlace l g x y z) (va_cwS 3 C.2.2.2.2.1 gX5_isRow_X5_isPlace rfl rfl rfl (by decide +kernel) ⟨Nat.le_of_ble_eq_true rfl, Nat.le_of_ble_eq_true rfl⟩) [] [0] rfl rfl rfl rfl rfl (by decide) rfl rfl (Nat.le_of_ble_eq_true rfl) dX5_isRow_3 ⟨Nat.le_of_ble_eq_true rfl, Nat.le_of_ble_eq_true rfl⟩ rfl ?_
  refine g_if_eq_b (tgt := 27) C dX5_isRow_6 (by decide) (fun c6 => ?_) (fun c6 => ?_)
  · skip
    refine g_iconst (v := nI 0) C dX5_isRow_27 (by decide) ?_
    refine g_st (st2 := [.int (bI false)]) rfl ?_
    refine g_zret C dX5_isRow_28 (by decide) (by decide) ?_
    exact ⟨rfl, rfl⟩
  · skip
    exact absurd (hb.symm.trans c6) (by decide)
set_option maxHeartbeats 4000000 in
set_option maxRecDepth 100000 in
theorem c_X5_drop_t (l : Launch) (g : gE) (a : Nat → Nat) (th : Int32) (wk : Bool) (ro : Int32) (lo ne di : Nat) (ta : Bool) (ce fo bt : Nat) (tr : Nat → Bool) (vw : Nat → Int64) (kw : Nat → Bool) (kv : Nat → Int64) (fr : Nat → Bool) (sd n u : Nat) (hs1 : sd < 2) (hn : n < 4) (hu : 1 ≤ u) (hu2 : u ≤ 64) (hp : tr (256 * sd + 64 * n + u - 1) = true) : Kt l g yX5_drop wsX5_drop 3 67 0 0 [.ref (a 0), .int (nI sd), .int (nI n), .int (nI u)] [(a 0, oM a th (bI wk) ro (nI lo) (nI ne) (nI di) (bI ta) (nI ce) (nI fo) (nI bt)), (a 3, gZ g 512 tr), (a 4, gJ g 512 vw), (a 5, gZ g 512 kw), (a 6, gJ g 512 kv), (a 7, gZ g 2 fr)] (kR (some (.int (bI true))) [(a 0, oM a (nI 0) (bI wk) ro (nI lo) (nI ne) (nI di) (bI ta) (nI ce) (nI fo) (nI bt)), (a 3, gZ g 512 (va_up tr (256 * sd + 64 * n + u - 1) false)), (a 4, gJ g 512 vw), (a 5, gZ g 512 (lnK (va_up tr (256 * sd + 64 * n + u - 1) false) kw (256 * sd + (64 * n + (u - 1) / 8 * 8)) 8)), (a 6, gJ g 512 (lnV vw kv (256 * sd + (64 * n + (u - 1) / 8 * 8)) 8)), (a 7, gZ g 2 (va_up fr sd false))]) := by
  have hinX5 : ∀ w ∈ wsX50, w ∈ wsX5_drop := by
    intro w h
    unfold wsX5_drop
    simp only [List.mem_cons, List.mem_append]
    simp only [h, or_true, true_or]
  refine g_enter (cc := cX5_drop) (maxL := 4) (ret := (some .boolean)) (own := RX5) (L := [(0, .ref (a 0)), (1, .int (nI sd)), (2, .int (nI n)), (3, .int (nI u))]) (by decide) rfl rfl (Nat.le_of_ble_eq_true rfl) rfl ?_
  intro p e s m args below meth c hin0 C
  refine g_aload_n C dX5_drop_0 rfl 0 rfl ?_
  refine g_iconst (v := nI 0) C dX5_drop_1 (by decide) ?_
  refine g_put (ty := .int) (w2 := [(a 0, oM a (nI 0) (bI wk) ro (nI lo) (nI ne) (nI di) (bI ta) (nI ce) (nI fo) (nI bt)), (a 3, gZ g 512 tr), (a 4, gJ g 512 vw), (a 5, gZ g 512 kw), (a 6, gJ g 512 kv), (a 7, gZ g 2 fr)]) C hinX5 0 rfl rfl 0 (by decide) (by decide +kernel) rfl tyX5 tyX5_ok nmX5 rfl (by decide +kernel) rfl rfl (Nat.le_of_ble_eq_true rfl) rfl dX5_drop_2 ?_
  refine g_aload_n C dX5_drop_5 rfl 0 rfl ?_
  refine g_iload_n C dX5_drop_6 rfl 1 rfl ?_
  refine g_iload_n C dX5_drop_7 rfl 2 rfl ?_
  refine g_iload_n C dX5_drop_8 rfl 3 rfl ?_
  refine g_callV1 (wr := [(a 4, gJ g 512 vw), (a 5, gZ g 512 kw), (a 6, gJ g 512 kv), (a 7, gZ g 2 fr)]) (w2 := [(a 4, gJ g 512 vw), (a 5, gZ g 512 kw), (a 6, gJ g 512 kv), (a 7, gZ g 2 fr), (a 0, oM a (nI 0) (bI wk) ro (nI lo) (nI ne) (nI di) (bI ta) (nI ce) (nI fo) (nI bt)), (a 3, gZ g 512 tr)]) C (c_X5_isRow l g a (nI 0) wk ro lo ne di ta ce fo bt tr sd n u (by omega) (by omega) (by omega) (by omega)) (cwV 3 C.2.2.2.2.1 gX5_drop_X5_isRow rfl rfl rfl (by decide +kernel) ⟨Nat.le_of_ble_eq_true rfl, Nat.le_of_ble_eq_true rfl⟩) 0 rfl rfl rfl [0, 1] [2, 3, 4, 5] rfl rfl rfl rfl rfl (by decide) rfl rfl (Nat.le_of_ble_eq_true rfl) dX5_drop_9 ⟨Nat.le_of_ble_eq_true rfl, Nat.le_of_ble_eq_true rfl⟩ rfl ?_
  refine g_if_ne_b (tgt := 17) C dX5_drop_12 (by decide) (fun c12 => ?_) (fun c12 => ?_)
  · skip
    refine g_aload_n C dX5_drop_17 rfl 0 rfl ?_
    refine g_get C hinX5 4 rfl rfl 2 (by decide) (by decide +kernel) rfl rfl dX5_drop_18 ?_
    refine g_iload_n C dX5_drop_21 rfl 1 rfl ?_
    refine g_iload_n C dX5_drop_22 rfl 2 rfl ?_
    refine g_iload_n C dX5_drop_23 rfl 3 rfl ?_
    refine g_callS1 (wr := [(a 4, gJ g 512 vw), (a 5, gZ g 512 kw), (a 6, gJ g 512 kv), (a 7, gZ g 2 fr), (a 0, oM a (nI 0) (bI wk) ro (nI lo) (nI ne) (nI di) (bI ta) (nI ce) (nI fo) (nI bt)), (a 3, gZ g 512 tr)]) (w2 := [(a 4, gJ g 512 vw), (a 5, gZ g 512 kw), (a 6, gJ g 512 kv), (a 7, gZ g 2 fr), (a 0, oM a (nI 0) (bI wk) ro (nI lo) (nI ne) (nI di) (bI ta) (nI ce) (nI fo) (nI bt)), (a 3, gZ g 512 tr)]) C (c_X5_at l g sd n u (by omega) (by omega) (by omega) (by omega)) (va_cwS 3 C.2.2.2.2.1 gX5_drop_X5_at rfl rfl rfl (by decide +kernel) ⟨Nat.le_of_ble_eq_true rfl, Nat.le_of_ble_eq_true rfl⟩) [] [0, 1, 2, 3, 4, 5] rfl rfl rfl rfl rfl (by decide) rfl rfl (Nat.le_of_ble_eq_true rfl) dX5_drop_24 ⟨Nat.le_of_ble_eq_true rfl, Nat.le_of_ble_eq_true rfl⟩ rfl ?_
    refine g_iconst (v := nI 0) C dX5_drop_27 (by decide) ?_
    refine g_st (st2 := [.int (bI false), .int (nI (256 * sd + 64 * n + u - 1)), .ref (a 3)]) rfl ?_
    refine g_zast (w2 := [(a 4, gJ g 512 vw), (a 5, gZ g 512 kw), (a 6, gJ g 512 kv), (a 7, gZ g 2 fr), (a 0, oM a (nI 0) (bI wk) ro (nI lo) (nI ne) (nI di) (bI ta) (nI ce) (nI fo) (nI bt)), (a 3, gZ g 512 (va_up tr (256 * sd + 64 * n + u - 1) false))]) C 5 rfl (by omega) (by decide) rfl dX5_drop_28 ?_
    refine g_aload_n C dX5_drop_29 rfl 0 rfl ?_
    refine g_iload_n C dX5_drop_30 rfl 1 rfl ?_
    refine g_iload_n C dX5_drop_31 rfl 2 rfl ?_
    refine g_iload_n C dX5_drop_32 rfl 3 rfl ?_
    refine g_callV0 (wr := []) (w2 := [(a 0, oM a (nI 0) (bI wk) ro (nI lo) (nI ne) (nI di) (bI ta) (nI ce) (nI fo) (nI bt)), (a 3, gZ g 512 (va_up tr (256 * sd + 64 * n + u - 1) false)), (a 4, gJ g 512 vw), (a 5, gZ g 512 (lnK (va_up tr (256 * sd + 64 * n + u - 1) false) kw (256 * sd + (64 * n + (u - 1) / 8 * 8)) 8)), (a 6, gJ g 512 (lnV vw kv (256 * sd + (64 * n + (u - 1) / 8 * 8)) 8)), (a 7, gZ g 2 (va_up fr sd false))]) C (c_X5_learnLeaf l g a (nI 0) wk ro lo ne di ta ce fo bt (va_up tr (256 * sd + 64 * n + u - 1) false) vw kw kv fr sd n u (by omega) (by omega) (by omega) (by omega)) (cwV 3 C.2.2.2.2.1 gX5_drop_X5_learnLeaf rfl rfl rfl (by decide +kernel) ⟨Nat.le_of_ble_eq_true rfl, Nat.le_of_ble_eq_true rfl⟩) 4 rfl rfl rfl [4, 5, 0, 1, 2, 3] [] rfl rfl rfl rfl rfl (by decide) rfl rfl (Nat.le_of_ble_eq_true rfl) dX5_drop_33 ⟨Nat.le_of_ble_eq_true rfl, Nat.le_of_ble_eq_true rfl⟩ rfl ?_
    refine g_iconst (v := nI 1) C dX5_drop_36 (by decide) ?_
    refine g_st (st2 := [.int (bI true)]) rfl ?_
    refine g_zret C dX5_drop_37 (by decide) (by decide) ?_
    exact ⟨rfl, rfl⟩
  · skip
    exact absurd (c12.symm.trans hp) (by decide)
set_option maxHeartbeats 4000000 in
set_option maxRecDepth 100000 in
theorem c_X5_drop_f (l : Launch) (g : gE) (a : Nat → Nat) (th : Int32) (wk : Bool) (ro : Int32) (lo ne di : Nat) (ta : Bool) (ce fo bt : Nat) (tr : Nat → Bool) (sd n u : Nat) (hs1 : sd < 2) (hn : n < 4) (hu : 1 ≤ u) (hu2 : u ≤ 64) (hp : tr (256 * sd + 64 * n + u - 1) = false) : Kt l g yX5_drop wsX5_drop 3 67 0 0 [.ref (a 0), .int (nI sd), .int (nI n), .int (nI u)] [(a 0, oM a th (bI wk) ro (nI lo) (nI ne) (nI di) (bI ta) (nI ce) (nI fo) (nI bt)), (a 3, gZ g 512 tr)] (kR (some (.int (bI false))) [(a 0, oM a (nI 0) (bI wk) ro (nI lo) (nI ne) (nI di) (bI ta) (nI ce) (nI fo) (nI bt)), (a 3, gZ g 512 tr)]) := by
  have hinX5 : ∀ w ∈ wsX50, w ∈ wsX5_drop := by
    intro w h
    unfold wsX5_drop
    simp only [List.mem_cons, List.mem_append]
    simp only [h, or_true, true_or]
  refine g_enter (cc := cX5_drop) (maxL := 4) (ret := (some .boolean)) (own := RX5) (L := [(0, .ref (a 0)), (1, .int (nI sd)), (2, .int (nI n)), (3, .int (nI u))]) (by decide) rfl rfl (Nat.le_of_ble_eq_true rfl) rfl ?_
  intro p e s m args below meth c hin0 C
  refine g_aload_n C dX5_drop_0 rfl 0 rfl ?_
  refine g_iconst (v := nI 0) C dX5_drop_1 (by decide) ?_
  refine g_put (ty := .int) (w2 := [(a 0, oM a (nI 0) (bI wk) ro (nI lo) (nI ne) (nI di) (bI ta) (nI ce) (nI fo) (nI bt)), (a 3, gZ g 512 tr)]) C hinX5 0 rfl rfl 0 (by decide) (by decide +kernel) rfl tyX5 tyX5_ok nmX5 rfl (by decide +kernel) rfl rfl (Nat.le_of_ble_eq_true rfl) rfl dX5_drop_2 ?_
  refine g_aload_n C dX5_drop_5 rfl 0 rfl ?_
  refine g_iload_n C dX5_drop_6 rfl 1 rfl ?_
  refine g_iload_n C dX5_drop_7 rfl 2 rfl ?_
  refine g_iload_n C dX5_drop_8 rfl 3 rfl ?_
  refine g_callV1 (wr := []) (w2 := [(a 0, oM a (nI 0) (bI wk) ro (nI lo) (nI ne) (nI di) (bI ta) (nI ce) (nI fo) (nI bt)), (a 3, gZ g 512 tr)]) C (c_X5_isRow l g a (nI 0) wk ro lo ne di ta ce fo bt tr sd n u (by omega) (by omega) (by omega) (by omega)) (cwV 3 C.2.2.2.2.1 gX5_drop_X5_isRow rfl rfl rfl (by decide +kernel) ⟨Nat.le_of_ble_eq_true rfl, Nat.le_of_ble_eq_true rfl⟩) 0 rfl rfl rfl [0, 1] [] rfl rfl rfl rfl rfl (by decide) rfl rfl (Nat.le_of_ble_eq_true rfl) dX5_drop_9 ⟨Nat.le_of_ble_eq_true rfl, Nat.le_of_ble_eq_true rfl⟩ rfl ?_
  refine g_if_ne_b (tgt := 17) C dX5_drop_12 (by decide) (fun c12 => ?_) (fun c12 => ?_)
  · skip
    exact absurd (hp.symm.trans c12) (by decide)
  · skip
    refine g_iconst (v := nI 0) C dX5_drop_15 (by decide) ?_
    refine g_st (st2 := [.int (bI false)]) rfl ?_
    refine g_zret C dX5_drop_16 (by decide) (by decide) ?_
    exact ⟨rfl, rfl⟩
set_option maxHeartbeats 4000000 in
set_option maxRecDepth 100000 in
theorem c_X5_drop_bad (l : Launch) (g : gE) (a : Nat → Nat) (th : Int32) (wk : Bool) (ro : Int32) (lo ne di : Nat) (ta : Bool) (ce fo bt : Nat) (x y z : Int32) (hb : (wiN x (nI 0) (nI 1) && wiN y (nI 0) (nI 3) && wiN z (nI 1) (nI 64)) = false) : Kt l g yX5_drop wsX5_drop 3 67 0 0 [.ref (a 0), .int x, .int y, .int z] [(a 0, oM a th (bI wk) ro (nI lo) (nI ne) (nI di) (bI ta) (nI ce) (nI fo) (nI bt))] (kR (some (.int (bI false))) [(a 0, oM a (nI 0) (bI wk) ro (nI lo) (nI ne) (nI di) (bI ta) (nI ce) (nI fo) (nI bt))]) := by
  have hinX5 : ∀ w ∈ wsX50, w ∈ wsX5_drop := by
    intro w h
    unfold wsX5_drop
    simp only [List.mem_cons, List.mem_append]
    simp only [h, or_true, true_or]
  refine g_enter (cc := cX5_drop) (maxL := 4) (ret := (some .boolean)) (own := RX5) (L := [(0, .ref (a 0)), (1, .int x), (2, .int y), (3, .int z)]) (by decide) rfl rfl (Nat.le_of_ble_eq_true rfl) rfl ?_
  intro p e s m args below meth c hin0 C
  refine g_aload_n C dX5_drop_0 rfl 0 rfl ?_
  refine g_iconst (v := nI 0) C dX5_drop_1 (by decide) ?_
  refine g_put (ty := .int) (w2 := [(a 0, oM a (nI 0) (bI wk) ro (nI lo) (nI ne) (nI di) (bI ta) (nI ce) (nI fo) (nI bt))]) C hinX5 0 rfl rfl 0 (by decide) (by decide +kernel) rfl tyX5 tyX5_ok nmX5 rfl (by decide +kernel) rfl rfl (Nat.le_of_ble_eq_true rfl) rfl dX5_drop_2 ?_
  refine g_aload_n C dX5_drop_5 rfl 0 rfl ?_
  refine g_iload_n C dX5_drop_6 rfl 1 rfl ?_
  refine g_iload_n C dX5_drop_7 rfl 2 rfl ?_
  refine g_iload_n C dX5_drop_8 rfl 3 rfl ?_
  refine g_callV1 (wr := []) (w2 := [(a 0, oM a (nI 0) (bI wk) ro (nI lo) (nI ne) (nI di) (bI ta) (nI ce) (nI fo) (nI bt))]) C (c_X5_isRow_bad l g a (nI 0) wk ro lo ne di ta ce fo bt x y z (by omega)) (cwV 3 C.2.2.2.2.1 gX5_drop_X5_isRow rfl rfl rfl (by decide +kernel) ⟨Nat.le_of_ble_eq_true rfl, Nat.le_of_ble_eq_true rfl⟩) 0 rfl rfl rfl [0] [] rfl rfl rfl rfl rfl (by decide) rfl rfl (Nat.le_of_ble_eq_true rfl) dX5_drop_9 ⟨Nat.le_of_ble_eq_true rfl, Nat.le_of_ble_eq_true rfl⟩ rfl ?_
  refine g_if_ne_b (tgt := 17) C dX5_drop_12 (by decide) (fun c12 => ?_) (fun c12 => ?_)
  · skip
    exact absurd c12 (by decide)
  · skip
    refine g_iconst (v := nI 0) C dX5_drop_15 (by decide) ?_
    refine g_st (st2 := [.int (bI false)]) rfl ?_
    refine g_zret C dX5_drop_16 (by decide) (by decide) ?_
    exact ⟨rfl, rfl⟩
set_option maxHeartbeats 4000000 in
set_option maxRecDepth 100000 in
theorem c_X5_hold_chg (l : Launch) (g : gE) (a : Nat → Nat) (th : Int32) (wk : Bool) (ro : Int32) (lo ne di : Nat) (ta : Bool) (ce fo bt : Nat) (hs : Nat → Bool) (tr : Nat → Bool) (vw : Nat → Int64) (kw : Nat → Bool) (kv : Nat → Int64) (fr : Nat → Bool) (sd n : Nat) (b : Bool) (hs1 : sd < 2) (hn : n < 4) (hp : hs (4 * sd + n) = !b) : Kt l g yX5_hold wsX5_hold 1 24 0 0 [.ref (a 0), .int (nI sd), .int (nI n), .int (bI b)] [(a 0, oM a th (bI wk) ro (nI lo) (nI ne) (nI di) (bI ta) (nI ce) (nI fo) (nI bt)), (a 2, gZ g 8 hs), (a 3, gZ g 512 tr), (a 4, gJ g 512 vw), (a 5, gZ g 512 kw), (a 6, gJ g 512 kv), (a 7, gZ g 2 fr)] (kR (some (.int (bI true))) [(a 0, oM a (nI 0) (bI wk) ro (nI lo) (nI ne) (nI di) (bI ta) (nI ce) (nI fo) (nI bt)), (a 2, gZ g 8 (va_up hs (4 * sd + n) b)), (a 3, gZ g 512 tr), (a 4, gJ g 512 vw), (a 5, gZ g 512 (lnK tr (lnK tr kw (256 * 0 + 64 * n) (64 * n + 64 - 64 * n)) (256 * 1 + 64 * n) (64 * n + 64 - 64 * n))), (a 6, gJ g 512 (lnV vw (lnV vw kv (256 * 0 + 64 * n) (64 * n + 64 - 64 * n)) (256 * 1 + 64 * n) (64 * n + 64 - 64 * n))), (a 7, gZ g 2 (va_up (va_up fr 0 false) 1 false))]) := by
  have hinX5 : ∀ w ∈ wsX50, w ∈ wsX5_hold := by
    intro w h
    unfold wsX5_hold
    simp only [List.mem_cons, List.mem_append]
    simp only [h, or_true, true_or]
  refine g_enter (cc := cX5_hold) (maxL := 4) (ret := (some .boolean)) (own := RX5) (L := [(0, .ref (a 0)), (1, .int (nI sd)), (2, .int (nI n)), (3, .int (bI b))]) (by decide) rfl rfl (Nat.le_of_ble_eq_true rfl) rfl ?_
  intro p e s m args below meth c hin0 C
  refine g_aload_n C dX5_hold_0 rfl 0 rfl ?_
  refine g_iconst (v := nI 0) C dX5_hold_1 (by decide) ?_
  refine g_put (ty := .int) (w2 := [(a 0, oM a (nI 0) (bI wk) ro (nI lo) (nI ne) (nI di) (bI ta) (nI ce) (nI fo) (nI bt)), (a 2, gZ g 8 hs), (a 3, gZ g 512 tr), (a 4, gJ g 512 vw), (a 5, gZ g 512 kw), (a 6, gJ g 512 kv), (a 7, gZ g 2 fr)]) C hinX5 0 rfl rfl 0 (by decide) (by decide +kernel) rfl tyX5 tyX5_ok nmX5 rfl (by decide +kernel) rfl rfl (Nat.le_of_ble_eq_true rfl) rfl dX5_hold_2 ?_
  refine g_iload_n C dX5_hold_5 rfl 1 rfl ?_
  refine g_iconst (v := nI 0) C dX5_hold_6 (by decide) ?_
  refine g_iconst (v := nI 1) C dX5_hold_7 (by decide) ?_
  refine g_callS1 (wr := [(a 0, oM a (nI 0) (bI wk) ro (nI lo) (nI ne) (nI di) (bI ta) (nI ce) (nI fo) (nI bt)), (a 2, gZ g 8 hs), (a 3, gZ g 512 tr), (a 4, gJ g 512 vw), (a 5, gZ g 512 kw), (a 6, gJ g 512 kv), (a 7, gZ g 2 fr)]) (w2 := [(a 0, oM a (nI 0) (bI wk) ro (nI lo) (nI ne) (nI di) (bI ta) (nI ce) (nI fo) (nI bt)), (a 2, gZ g 8 hs), (a 3, gZ g 512 tr), (a 4, gJ g 512 vw), (a 5, gZ g 512 kw), (a 6, gJ g 512 kv), (a 7, gZ g 2 fr)]) C (c_X5_within l g (nI sd) (nI 0) (nI 1)) (va_cwS 3 C.2.2.2.2.1 gX5_hold_X5_within rfl rfl rfl (by decide +kernel) ⟨Nat.le_of_ble_eq_true rfl, Nat.le_of_ble_eq_true rfl⟩) [] [0, 1, 2, 3, 4, 5, 6] rfl rfl rfl rfl rfl (by decide) rfl rfl (Nat.le_of_ble_eq_true rfl) dX5_hold_8 ⟨Nat.le_of_ble_eq_true rfl, Nat.le_of_ble_eq_true rfl⟩ rfl ?_
  refine g_if_eq_b (tgt := 37) C dX5_hold_11 (by decide) (fun c11 => ?_) (fun c11 => ?_)
  · skip
    exact absurd (c11.symm.trans (wiN_n (by omega) (by omega) (by decide))) (by decide)
  · skip
    refine g_iload_n C dX5_hold_14 rfl 2 rfl ?_
    refine g_iconst (v := nI 0) C dX5_hold_15 (by decide) ?_
    refine g_iconst (v := nI 3) C dX5_hold_16 (by decide) ?_
    refine g_callS1 (wr := [(a 0, oM a (nI 0) (bI wk) ro (nI lo) (nI ne) (nI di) (bI ta) (nI ce) (nI fo) (nI bt)), (a 2, gZ g 8 hs), (a 3, gZ g 512 tr), (a 4, gJ g 512 vw), (a 5, gZ g 512 kw), (a 6, gJ g 512 kv), (a 7, gZ g 2 fr)]) (w2 := [(a 0, oM a (nI 0) (bI wk) ro (nI lo) (nI ne) (nI di) (bI ta) (nI ce) (nI fo) (nI bt)), (a 2, gZ g 8 hs), (a 3, gZ g 512 tr), (a 4, gJ g 512 vw), (a 5, gZ g 512 kw), (a 6, gJ g 512 kv), (a 7, gZ g 2 fr)]) C (c_X5_within l g (nI n) (nI 0) (nI 3)) (va_cwS 3 C.2.2.2.2.1 gX5_hold_X5_within rfl rfl rfl (by decide +kernel) ⟨Nat.le_of_ble_eq_true rfl, Nat.le_of_ble_eq_true rfl⟩) [] [0, 1, 2, 3, 4, 5, 6] rfl rfl rfl rfl rfl (by decide) rfl rfl (Nat.le_of_ble_eq_true rfl) dX5_hold_17 ⟨Nat.le_of_ble_eq_true rfl, Nat.le_of_ble_eq_true rfl⟩ rfl ?_
    refine g_if_eq_b (tgt := 37) C dX5_hold_20 (by decide) (fun c20 => ?_) (fun c20 => ?_)
    · skip
      exact absurd (c20.symm.trans (wiN_n (by omega) (by omega) (by decide))) (by decide)
    · skip
      refine g_aload_n C dX5_hold_23 rfl 0 rfl ?_
      refine g_get C hinX5 0 rfl rfl 1 (by decide) (by decide +kernel) rfl rfl dX5_hold_24 ?_
      refine g_iconst (v := nI 4) C dX5_hold_27 (by decide) ?_
      refine g_iload_n C dX5_hold_28 rfl 1 rfl ?_
      refine g_imul_n C dX5_hold_29 ?_
      refine g_iload_n C dX5_hold_30 rfl 2 rfl ?_
      refine g_iadd_n C dX5_hold_31 ?_
      refine g_zald C 1 rfl (by omega) (by decide) dX5_hold_32 ?_
      refine g_iload_n C dX5_hold_33 rfl 3 rfl ?_
      refine g_icmp_ne (tgt := 39) C dX5_hold_34 (by decide) (fun c34 => ?_) (fun c34 => ?_)
      · skip
        refine g_aload_n C dX5_hold_39 rfl 0 rfl ?_
        refine g_get C hinX5 0 rfl rfl 1 (by decide) (by decide +kernel) rfl rfl dX5_hold_40 ?_
        refine g_iconst (v := nI 4) C dX5_hold_43 (by decide) ?_
        refine g_iload_n C dX5_hold_44 rfl 1 rfl ?_
        refine g_imul_n C dX5_hold_45 ?_
        refine g_iload_n C dX5_hold_46 rfl 2 rfl ?_
        refine g_iadd_n C dX5_hold_47 ?_
        refine g_iload_n C dX5_hold_48 rfl 3 rfl ?_
        refine g_zast (w2 := [(a 0, oM a (nI 0) (bI wk) ro (nI lo) (nI ne) (nI di) (bI ta) (nI ce) (nI fo) (nI bt)), (a 2, gZ g 8 (va_up hs ((4 * sd) + n) b)), (a 3, gZ g 512 tr), (a 4, gJ g 512 vw), (a 5, gZ g 512 kw), (a 6, gJ g 512 kv), (a 7, gZ g 2 fr)]) C 1 rfl (by omega) (by decide) rfl dX5_hold_49 ?_
        refine g_aload_n C dX5_hold_50 rfl 0 rfl ?_
        refine g_iconst (v := nI 0) C dX5_hold_51 (by decide) ?_
        refine g_bipush (v := nI 64) C dX5_hold_52 (by decide) ?_
        refine g_iload_n C dX5_hold_54 rfl 2 rfl ?_
        refine g_imul_n C dX5_hold_55 ?_
        refine g_bipush (v := nI 64) C dX5_hold_56 (by decide) ?_
        refine g_iload_n C dX5_hold_58 rfl 2 rfl ?_
        refine g_imul_n C dX5_hold_59 ?_
        refine g_bipush (v := nI 64) C dX5_hold_60 (by decide) ?_
        refine g_iadd_n C dX5_hold_62 ?_
        refine g_callV0 (wr := [(a 2, gZ g 8 (va_up hs ((4 * sd) + n) b))]) (w2 := [(a 2, gZ g 8 (va_up hs ((4 * sd) + n) b)), (a 0, oM a (nI 0) (bI wk) ro (nI lo) (nI ne) (nI di) (bI ta) (nI ce) (nI fo) (nI bt)), (a 3, gZ g 512 tr), (a 4, gJ g 512 vw), (a 5, gZ g 512 (lnK tr kw (256 * 0 + (64 * n)) (((64 * n) + 64) - (64 * n)))), (a 6, gJ g 512 (lnV vw kv (256 * 0 + (64 * n)) (((64 * n) + 64) - (64 * n)))), (a 7, gZ g 2 (va_up fr 0 false))]) C (c_X5_learn l g a (nI 0) wk ro lo ne di ta ce fo bt tr vw kw kv fr 0 (64 * n) ((64 * n) + 64) (by omega) (by omega) (by omega)) (cwV 3 C.2.2.2.2.1 gX5_hold_X5_learn rfl rfl rfl (by decide +kernel) ⟨Nat.le_of_ble_eq_true rfl, Nat.le_of_ble_eq_true rfl⟩) 0 rfl rfl rfl [0, 2, 3, 4, 5, 6] [1] rfl rfl rfl rfl rfl (by decide) rfl rfl (Nat.le_of_ble_eq_true rfl) dX5_hold_63 ⟨Nat.le_of_ble_eq_true rfl, Nat.le_of_ble_eq_true rfl⟩ rfl ?_
        refine g_aload_n C dX5_hold_66 rfl 0 rfl ?_
        refine g_iconst (v := nI 1) C dX5_hold_67 (by decide) ?_
        refine g_bipush (v := nI 64) C dX5_hold_68 (by decide) ?_
        refine g_iload_n C dX5_hold_70 rfl 2 rfl ?_
        refine g_imul_n C dX5_hold_71 ?_
        refine g_bipush (v := nI 64) C dX5_hold_72 (by decide) ?_
        refine g_iload_n C dX5_hold_74 rfl 2 rfl ?_
        refine g_imul_n C dX5_hold_75 ?_
        refine g_bipush (v := nI 64) C dX5_hold_76 (by decide) ?_
        refine g_iadd_n C dX5_hold_78 ?_
        refine g_callV0 (wr := [(a 2, gZ g 8 (va_up hs ((4 * sd) + n) b))]) (w2 := [(a 2, gZ g 8 (va_up hs ((4 * sd) + n) b)), (a 0, oM a (nI 0) (bI wk) ro (nI lo) (nI ne) (nI di) (bI ta) (nI ce) (nI fo) (nI bt)), (a 3, gZ g 512 tr), (a 4, gJ g 512 vw), (a 5, gZ g 512 (lnK tr (lnK tr kw (256 * 0 + (64 * n)) (((64 * n) + 64) - (64 * n))) (256 * 1 + (64 * n)) (((64 * n) + 64) - (64 * n)))), (a 6, gJ g 512 (lnV vw (lnV vw kv (256 * 0 + (64 * n)) (((64 * n) + 64) - (64 * n))) (256 * 1 + (64 * n)) (((64 * n) + 64) - (64 * n)))), (a 7, gZ g 2 (va_up (va_up fr 0 false) 1 false))]) C (c_X5_learn l g a (nI 0) wk ro lo ne di ta ce fo bt tr vw (lnK tr kw (256 * 0 + (64 * n)) (((64 * n) + 64) - (64 * n))) (lnV vw kv (256 * 0 + (64 * n)) (((64 * n) + 64) - (64 * n))) (va_up fr 0 false) 1 (64 * n) ((64 * n) + 64) (by omega) (by omega) (by omega)) (cwV 3 C.2.2.2.2.1 gX5_hold_X5_learn rfl rfl rfl (by decide +kernel) ⟨Nat.le_of_ble_eq_true rfl, Nat.le_of_ble_eq_true rfl⟩) 1 rfl rfl rfl [1, 2, 3, 4, 5, 6] [0] rfl rfl rfl rfl rfl (by decide) rfl rfl (Nat.le_of_ble_eq_true rfl) dX5_hold_79 ⟨Nat.le_of_ble_eq_true rfl, Nat.le_of_ble_eq_true rfl⟩ rfl ?_
        refine g_iconst (v := nI 1) C dX5_hold_82 (by decide) ?_
        refine g_perm (w2 := [(a 0, oM a (nI 0) (bI wk) ro (nI lo) (nI ne) (nI di) (bI ta) (nI ce) (nI fo) (nI bt)), (a 2, gZ g 8 (va_up hs ((4 * sd) + n) b)), (a 3, gZ g 512 tr), (a 4, gJ g 512 vw), (a 5, gZ g 512 (lnK tr (lnK tr kw (256 * 0 + (64 * n)) (((64 * n) + 64) - (64 * n))) (256 * 1 + (64 * n)) (((64 * n) + 64) - (64 * n)))), (a 6, gJ g 512 (lnV vw (lnV vw kv (256 * 0 + (64 * n)) (((64 * n) + 64) - (64 * n))) (256 * 1 + (64 * n)) (((64 * n) + 64) - (64 * n)))), (a 7, gZ g 2 (va_up (va_up fr 0 false) 1 false))]) [1, 0, 2, 3, 4, 5, 6] rfl rfl rfl ?_
        refine g_st (st2 := [.int (bI true)]) rfl ?_
        refine g_zret C dX5_hold_83 (by decide) (by decide) ?_
        exact ⟨rfl, rfl⟩
      · skip
        rw [hp] at c34; exact absurd c34 (by cases b <;> decide)
set_option maxHeartbeats 4000000 in
set_option maxRecDepth 100000 in
theorem c_X5_hold_same (l : Launch) (g : gE) (a : Nat → Nat) (th : Int32) (wk : Bool) (ro : Int32) (lo ne di : Nat) (ta : Bool) (ce fo bt : Nat) (hs : Nat → Bool) (sd n : Nat) (b : Bool) (hs1 : sd < 2) (hn : n < 4) (hp : hs (4 * sd + n) = b) : Kt l g yX5_hold wsX5_hold 1 22 0 0 [.ref (a 0), .int (nI sd), .int (nI n), .int (bI b)] [(a 0, oM a th (bI wk) ro (nI lo) (nI ne) (nI di) (bI ta) (nI ce) (nI fo) (nI bt)), (a 2, gZ g 8 hs)] (kR (some (.int (bI false))) [(a 0, oM a (nI 0) (bI wk) ro (nI lo) (nI ne) (nI di) (bI ta) (nI ce) (nI fo) (nI bt)), (a 2, gZ g 8 hs)]) := by
  have hinX5 : ∀ w ∈ wsX50, w ∈ wsX5_hold := by
    intro w h
    unfold wsX5_hold
    simp only [List.mem_cons, List.mem_append]
    simp only [h, or_true, true_or]
  refine g_enter (cc := cX5_hold) (maxL := 4) (ret := (some .boolean)) (own := RX5) (L := [(0, .ref (a 0)), (1, .int (nI sd)), (2, .int (nI n)), (3, .int (bI b))]) (by decide) rfl rfl (Nat.le_of_ble_eq_true rfl) rfl ?_
  intro p e s m args below meth c hin0 C
  refine g_aload_n C dX5_hold_0 rfl 0 rfl ?_
  refine g_iconst (v := nI 0) C dX5_hold_1 (by decide) ?_
  refine g_put (ty := .int) (w2 := [(a 0, oM a (nI 0) (bI wk) ro (nI lo) (nI ne) (nI di) (bI ta) (nI ce) (nI fo) (nI bt)), (a 2, gZ g 8 hs)]) C hinX5 0 rfl rfl 0 (by decide) (by decide +kernel) rfl tyX5 tyX5_ok nmX5 rfl (by decide +kernel) rfl rfl (Nat.le_of_ble_eq_true rfl) rfl dX5_hold_2 ?_
  refine g_iload_n C dX5_hold_5 rfl 1 rfl ?_
  refine g_iconst (v := nI 0) C dX5_hold_6 (by decide) ?_
  refine g_iconst (v := nI 1) C dX5_hold_7 (by decide) ?_
  refine g_callS1 (wr := [(a 0, oM a (nI 0) (bI wk) ro (nI lo) (nI ne) (nI di) (bI ta) (nI ce) (nI fo) (nI bt)), (a 2, gZ g 8 hs)]) (w2 := [(a 0, oM a (nI 0) (bI wk) ro (nI lo) (nI ne) (nI di) (bI ta) (nI ce) (nI fo) (nI bt)), (a 2, gZ g 8 hs)]) C (c_X5_within l g (nI sd) (nI 0) (nI 1)) (va_cwS 3 C.2.2.2.2.1 gX5_hold_X5_within rfl rfl rfl (by decide +kernel) ⟨Nat.le_of_ble_eq_true rfl, Nat.le_of_ble_eq_true rfl⟩) [] [0, 1] rfl rfl rfl rfl rfl (by decide) rfl rfl (Nat.le_of_ble_eq_true rfl) dX5_hold_8 ⟨Nat.le_of_ble_eq_true rfl, Nat.le_of_ble_eq_true rfl⟩ rfl ?_
  refine g_if_eq_b (tgt := 37) C dX5_hold_11 (by decide) (fun c11 => ?_) (fun c11 => ?_)
  · skip
    exact absurd (c11.symm.trans (wiN_n (by omega) (by omega) (by decide))) (by decide)
  · skip
    refine g_iload_n C dX5_hold_14 rfl 2 rfl ?_
    refine g_iconst (v := nI 0) C dX5_hold_15 (by decide) ?_
    refine g_iconst (v := nI 3) C dX5_hold_16 (by decide) ?_
    refine g_callS1 (wr := [(a 0, oM a (nI 0) (bI wk) ro (nI lo) (nI ne) (nI di) (bI ta) (nI ce) (nI fo) (nI bt)), (a 2, gZ g 8 hs)]) (w2 := [(a 0, oM a (nI 0) (bI wk) ro (nI lo) (nI ne) (nI di) (bI ta) (nI ce) (nI fo) (nI bt)), (a 2, gZ g 8 hs)]) C (c_X5_within l g (nI n) (nI 0) (nI 3)) (va_cwS 3 C.2.2.2.2.1 gX5_hold_X5_within rfl rfl rfl (by decide +kernel) ⟨Nat.le_of_ble_eq_true rfl, Nat.le_of_ble_eq_true rfl⟩) [] [0, 1] rfl rfl rfl rfl rfl (by decide) rfl rfl (Nat.le_of_ble_eq_true rfl) dX5_hold_17 ⟨Nat.le_of_ble_eq_true rfl, Nat.le_of_ble_eq_true rfl⟩ rfl ?_
    refine g_if_eq_b (tgt := 37) C dX5_hold_20 (by decide) (fun c20 => ?_) (fun c20 => ?_)
    · skip
      exact absurd (c20.symm.trans (wiN_n (by omega) (by omega) (by decide))) (by decide)
    · skip
      refine g_aload_n C dX5_hold_23 rfl 0 rfl ?_
      refine g_get C hinX5 0 rfl rfl 1 (by decide) (by decide +kernel) rfl rfl dX5_hold_24 ?_
      refine g_iconst (v := nI 4) C dX5_hold_27 (by decide) ?_
      refine g_iload_n C dX5_hold_28 rfl 1 rfl ?_
      refine g_imul_n C dX5_hold_29 ?_
      refine g_iload_n C dX5_hold_30 rfl 2 rfl ?_
      refine g_iadd_n C dX5_hold_31 ?_
      refine g_zald C 1 rfl (by omega) (by decide) dX5_hold_32 ?_
      refine g_iload_n C dX5_hold_33 rfl 3 rfl ?_
      refine g_icmp_ne (tgt := 39) C dX5_hold_34 (by decide) (fun c34 => ?_) (fun c34 => ?_)
      · skip
        exact absurd (by rw [hp]) c34
      · skip
        refine g_iconst (v := nI 0) C dX5_hold_37 (by decide) ?_
        refine g_st (st2 := [.int (bI false)]) rfl ?_
        refine g_zret C dX5_hold_38 (by decide) (by decide) ?_
        exact ⟨rfl, rfl⟩
set_option maxHeartbeats 4000000 in
set_option maxRecDepth 100000 in
theorem c_X5_hold_bad (l : Launch) (g : gE) (a : Nat → Nat) (th : Int32) (wk : Bool) (ro : Int32) (lo ne di : Nat) (ta : Bool) (ce fo bt : Nat) (x y : Int32) (b : Bool) (hb : (wiN x (nI 0) (nI 1) && wiN y (nI 0) (nI 3)) = false) : Kt l g yX5_hold wsX5_hold 1 22 0 0 [.ref (a 0), .int x, .int y, .int (bI b)] [(a 0, oM a th (bI wk) ro (nI lo) (nI ne) (nI di) (bI ta) (nI ce) (nI fo) (nI bt))] (kR (some (.int (bI false))) [(a 0, oM a (nI 0) (bI wk) ro (nI lo) (nI ne) (nI di) (bI ta) (nI ce) (nI fo) (nI bt))]) := by
  have hinX5 : ∀ w ∈ wsX50, w ∈ wsX5_hold := by
    intro w h
    unfold wsX5_hold
    simp only [List.mem_cons, List.mem_append]
    simp only [h, or_true, true_or]
  refine g_enter (cc := cX5_hold) (maxL := 4) (ret := (some .boolean)) (own := RX5) (L := [(0, .ref (a 0)), (1, .int x), (2, .int y), (3, .int (bI b))]) (by decide) rfl rfl (Nat.le_of_ble_eq_true rfl) rfl ?_
  intro p e s m args below meth c hin0 C
  refine g_aload_n C dX5_hold_0 rfl 0 rfl ?_
  refine g_iconst (v := nI 0) C dX5_hold_1 (by decide) ?_
  refine g_put (ty := .int) (w2 := [(a 0, oM a (nI 0) (bI wk) ro (nI lo) (nI ne) (nI di) (bI ta) (nI ce) (nI fo) (nI bt))]) C hinX5 0 rfl rfl 0 (by decide) (by decide +kernel) rfl tyX5 tyX5_ok nmX5 rfl (by decide +kernel) rfl rfl (Nat.le_of_ble_eq_true rfl) rfl dX5_hold_2 ?_
  refine g_iload_n C dX5_hold_5 rfl 1 rfl ?_
  refine g_iconst (v := nI 0) C dX5_hold_6 (by decide) ?_
  refine g_iconst (v := nI 1) C dX5_hold_7 (by decide) ?_
  refine g_callS1 (wr := [(a 0, oM a (nI 0) (bI wk) ro (nI lo) (nI ne) (nI di) (bI ta) (nI ce) (nI fo) (nI bt))]) (w2 := [(a 0, oM a (nI 0) (bI wk) ro (nI lo) (nI ne) (nI di) (bI ta) (nI ce) (nI fo) (nI bt))]) C (c_X5_within l g x (nI 0) (nI 1)) (va_cwS 3 C.2.2.2.2.1 gX5_hold_X5_within rfl rfl rfl (by decide +kernel) ⟨Nat.le_of_ble_eq_true rfl, Nat.le_of_ble_eq_true rfl⟩) [] [0] rfl rfl rfl rfl rfl (by decide) rfl rfl (Nat.le_of_ble_eq_true rfl) dX5_hold_8 ⟨Nat.le_of_ble_eq_true rfl, Nat.le_of_ble_eq_true rfl⟩ rfl ?_
  refine g_if_eq_b (tgt := 37) C dX5_hold_11 (by decide) (fun c11 => ?_) (fun c11 => ?_)
  · skip
    refine g_iconst (v := nI 0) C dX5_hold_37 (by decide) ?_
    refine g_st (st2 := [.int (bI false)]) rfl ?_
    refine g_zret C dX5_hold_38 (by decide) (by decide) ?_
    exact ⟨rfl, rfl⟩
  · skip
    refine g_iload_n C dX5_hold_14 rfl 2 rfl ?_
    refine g_iconst (v := nI 0) C dX5_hold_15 (by decide) ?_
    refine g_iconst (v := nI 3) C dX5_hold_16 (by decide) ?_
    refine g_callS1 (wr := [(a 0, oM a (nI 0) (bI wk) ro (nI lo) (nI ne) (nI di) (bI ta) (nI ce) (nI fo) (nI bt))]) (w2 := [(a 0, oM a (nI 0) (bI wk) ro (nI lo) (nI ne) (nI di) (bI ta) (nI ce) (nI fo) (nI bt))]) C (c_X5_within l g y (nI 0) (nI 3)) (va_cwS 3 C.2.2.2.2.1 gX5_hold_X5_within rfl rfl rfl (by decide +kernel) ⟨Nat.le_of_ble_eq_true rfl, Nat.le_of_ble_eq_true rfl⟩) [] [0] rfl rfl rfl rfl rfl (by decide) rfl rfl (Nat.le_of_ble_eq_true rfl) dX5_hold_17 ⟨Nat.le_of_ble_eq_true rfl, Nat.le_of_ble_eq_true rfl⟩ rfl ?_
    refine g_if_eq_b (tgt := 37) C dX5_hold_20 (by decide) (fun c20 => ?_) (fun c20 => ?_)
    · skip
      refine g_iconst (v := nI 0) C dX5_hold_37 (by decide) ?_
      refine g_st (st2 := [.int (bI false)]) rfl ?_
      refine g_zret C dX5_hold_38 (by decide) (by decide) ?_
      exact ⟨rfl, rfl⟩
    · skip
      rw [c11, c20] at hb; cases hb
set_option maxHeartbeats 4000000 in
set_option maxRecDepth 100000 in
theorem c_X5_poke_t (l : Launch) (g : gE) (a : Nat → Nat) (th : Int32) (wk : Bool) (ro : Int32) (lo ne di : Nat) (ta : Bool) (ce fo bt : Nat) (tr : Nat → Bool) (vw : Nat → Int64) (sd n u : Nat) (v : Int64) (hs1 : sd < 2) (hn : n < 4) (hu : 1 ≤ u) (hu2 : u ≤ 64) (hp : tr (256 * sd + 64 * n + u - 1) = true) (hv : ¬ v = 0) : Kt l g yX5_poke wsX5_poke 3 67 0 0 [.ref (a 0), .int (nI sd), .int (nI n), .int (nI u), .long v] [(a 0, oM a th (bI wk) ro (nI lo) (nI ne) (nI di) (bI ta) (nI ce) (nI fo) (nI bt)), (a 3, gZ g 512 tr), (a 4, gJ g 512 vw)] (kR (some (.int (bI true))) [(a 0, oM a (nI 0) (bI wk) ro (nI lo) (nI ne) (nI di) (bI ta) (nI ce) (nI fo) (nI bt)), (a 3, gZ g 512 tr), (a 4, gJ g 512 (va_up vw (256 * sd + 64 * n + u - 1) (vw (256 * sd + 64 * n + u - 1) ^^^ v)))]) := by
  have hinX5 : ∀ w ∈ wsX50, w ∈ wsX5_poke := by
    intro w h
    unfold wsX5_poke
    simp only [List.mem_cons, List.mem_append]
    simp only [h, or_true, true_or]
  refine g_enter (cc := cX5_poke) (maxL := 6) (ret := (some .boolean)) (own := RX5) (L := [(0, .ref (a 0)), (1, .int (nI sd)), (2, .int (nI n)), (3, .int (nI u)), (4, .long v)]) (by decide) rfl rfl (Nat.le_of_ble_eq_true rfl) rfl ?_
  intro p e s m args below meth c hin0 C
  refine g_aload_n C dX5_poke_0 rfl 0 rfl ?_
  refine g_iconst (v := nI 0) C dX5_poke_1 (by decide) ?_
  refine g_put (ty := .int) (w2 := [(a 0, oM a (nI 0) (bI wk) ro (nI lo) (nI ne) (nI di) (bI ta) (nI ce) (nI fo) (nI bt)), (a 3, gZ g 512 tr), (a 4, gJ g 512 vw)]) C hinX5 0 rfl rfl 0 (by decide) (by decide +kernel) rfl tyX5 tyX5_ok nmX5 rfl (by decide +kernel) rfl rfl (Nat.le_of_ble_eq_true rfl) rfl dX5_poke_2 ?_
  refine g_aload_n C dX5_poke_5 rfl 0 rfl ?_
  refine g_iload_n C dX5_poke_6 rfl 1 rfl ?_
  refine g_iload_n C dX5_poke_7 rfl 2 rfl ?_
  refine g_iload_n C dX5_poke_8 rfl 3 rfl ?_
  refine g_callV1 (wr := [(a 4, gJ g 512 vw)]) (w2 := [(a 4, gJ g 512 vw), (a 0, oM a (nI 0) (bI wk) ro (nI lo) (nI ne) (nI di) (bI ta) (nI ce) (nI fo) (nI bt)), (a 3, gZ g 512 tr)]) C (c_X5_isRow l g a (nI 0) wk ro lo ne di ta ce fo bt tr sd n u (by omega) (by omega) (by omega) (by omega)) (cwV 3 C.2.2.2.2.1 gX5_poke_X5_isRow rfl rfl rfl (by decide +kernel) ⟨Nat.le_of_ble_eq_true rfl, Nat.le_of_ble_eq_true rfl⟩) 0 rfl rfl rfl [0, 1] [2] rfl rfl rfl rfl rfl (by decide) rfl rfl (Nat.le_of_ble_eq_true rfl) dX5_poke_9 ⟨Nat.le_of_ble_eq_true rfl, Nat.le_of_ble_eq_true rfl⟩ rfl ?_
  refine g_if_eq_b (tgt := 22) C dX5_poke_12 (by decide) (fun c12 => ?_) (fun c12 => ?_)
  · skip
    exact absurd (c12.symm.trans hp) (by decide)
  · skip
    refine g_lload C dX5_poke_15 4 rfl ?_
    refine g_lconst (v := 0) C dX5_poke_17 (by decide) ?_
    refine g_lcmp C dX5_poke_18 ?_
    refine g_if_ne (tgt := 24) C dX5_poke_19 (by decide) (fun c19 => ?_) (fun c19 => ?_)
    · skip
      refine g_aload_n C dX5_poke_24 rfl 0 rfl ?_
      refine g_get C hinX5 1 rfl rfl 3 (by decide) (by decide +kernel) rfl rfl dX5_poke_25 ?_
      refine g_iload_n C dX5_poke_28 rfl 1 rfl ?_
      refine g_iload_n C dX5_poke_29 rfl 2 rfl ?_
      refine g_iload_n C dX5_poke_30 rfl 3 rfl ?_
      refine g_callS1 (wr := [(a 4, gJ g 512 vw), (a 0, oM a (nI 0) (bI wk) ro (nI lo) (nI ne) (nI di) (bI ta) (nI ce) (nI fo) (nI bt)), (a 3, gZ g 512 tr)]) (w2 := [(a 4, gJ g 512 vw), (a 0, oM a (nI 0) (bI wk) ro (nI lo) (nI ne) (nI di) (bI ta) (nI ce) (nI fo) (nI bt)), (a 3, gZ g 512 tr)]) C (c_X5_at l g sd n u (by omega) (by omega) (by omega) (by omega)) (va_cwS 3 C.2.2.2.2.1 gX5_poke_X5_at rfl rfl rfl (by decide +kernel) ⟨Nat.le_of_ble_eq_true rfl, Nat.le_of_ble_eq_true rfl⟩) [] [0, 1, 2] rfl rfl rfl rfl rfl (by decide) rfl rfl (Nat.le_of_ble_eq_true rfl) dX5_poke_31 ⟨Nat.le_of_ble_eq_true rfl, Nat.le_of_ble_eq_true rfl⟩ rfl ?_
      refine g_dup2 C dX5_poke_34 rfl rfl ?_
      refine g_lald C 0 rfl (by omega) (by decide) dX5_poke_35 ?_
      refine g_lload C dX5_poke_36 4 rfl ?_
      refine g_lxor C dX5_poke_38 ?_
      refine g_last (w2 := [(a 4, gJ g 512 (va_up vw (256 * sd + 64 * n + u - 1) ((vw (256 * sd + 64 * n + u - 1)) ^^^ v))), (a 0, oM a (nI 0) (bI wk) ro (nI lo) (nI ne) (nI di) (bI ta) (nI ce) (nI fo) (nI bt)), (a 3, gZ g 512 tr)]) C 0 rfl (by omega) (by decide) rfl dX5_poke_39 ?_
      refine g_iconst (v := nI 1) C dX5_poke_40 (by decide) ?_
      refine g_perm (w2 := [(a 0, oM a (nI 0) (bI wk) ro (nI lo) (nI ne) (nI di) (bI ta) (nI ce) (nI fo) (nI bt)), (a 3, gZ g 512 tr), (a 4, gJ g 512 (va_up vw (256 * sd + 64 * n + u - 1) ((vw (256 * sd + 64 * n + u - 1)) ^^^ v)))]) [1, 2, 0] rfl rfl rfl ?_
      refine g_st (st2 := [.int (bI true)]) rfl ?_
      refine g_zret C dX5_poke_41 (by decide) (by decide) ?_
      exact ⟨rfl, rfl⟩
    · skip
      exact absurd (lgc_eq.mp c19) hv
set_option maxHeartbeats 4000000 in
set_option maxRecDepth 100000 in
theorem c_X5_poke_z (l : Launch) (g : gE) (a : Nat → Nat) (th : Int32) (wk : Bool) (ro : Int32) (lo ne di : Nat) (ta : Bool) (ce fo bt : Nat) (tr : Nat → Bool) (sd n u : Nat) (v : Int64) (hs1 : sd < 2) (hn : n < 4) (hu : 1 ≤ u) (hu2 : u ≤ 64) (hp : tr (256 * sd + 64 * n + u - 1) = true) (hv : v = 0) : Kt l g yX5_poke wsX5_poke 3 67 0 0 [.ref (a 0), .int (nI sd), .int (nI n), .int (nI u), .long v] [(a 0, oM a th (bI wk) ro (nI lo) (nI ne) (nI di) (bI ta) (nI ce) (nI fo) (nI bt)), (a 3, gZ g 512 tr)] (kR (some (.int (bI false))) [(a 0, oM a (nI 0) (bI wk) ro (nI lo) (nI ne) (nI di) (bI ta) (nI ce) (nI fo) (nI bt)), (a 3, gZ g 512 tr)]) := by
  have hinX5 : ∀ w ∈ wsX50, w ∈ wsX5_poke := by
    intro w h
    unfold wsX5_poke
    simp only [List.mem_cons, List.mem_append]
    simp only [h, or_true, true_or]
  refine g_enter (cc := cX5_poke) (maxL := 6) (ret := (some .boolean)) (own := RX5) (L := [(0, .ref (a 0)), (1, .int (nI sd)), (2, .int (nI n)), (3, .int (nI u)), (4, .long v)]) (by decide) rfl rfl (Nat.le_of_ble_eq_true rfl) rfl ?_
  intro p e s m args below meth c hin0 C
  refine g_aload_n C dX5_poke_0 rfl 0 rfl ?_
  refine g_iconst (v := nI 0) C dX5_poke_1 (by decide) ?_
  refine g_put (ty := .int) (w2 := [(a 0, oM a (nI 0) (bI wk) ro (nI lo) (nI ne) (nI di) (bI ta) (nI ce) (nI fo) (nI bt)), (a 3, gZ g 512 tr)]) C hinX5 0 rfl rfl 0 (by decide) (by decide +kernel) rfl tyX5 tyX5_ok nmX5 rfl (by decide +kernel) rfl rfl (Nat.le_of_ble_eq_true rfl) rfl dX5_poke_2 ?_
  refine g_aload_n C dX5_poke_5 rfl 0 rfl ?_
  refine g_iload_n C dX5_poke_6 rfl 1 rfl ?_
  refine g_iload_n C dX5_poke_7 rfl 2 rfl ?_
  refine g_iload_n C dX5_poke_8 rfl 3 rfl ?_
  refine g_callV1 (wr := []) (w2 := [(a 0, oM a (nI 0) (bI wk) ro (nI lo) (nI ne) (nI di) (bI ta) (nI ce) (nI fo) (nI bt)), (a 3, gZ g 512 tr)]) C (c_X5_isRow l g a (nI 0) wk ro lo ne di ta ce fo bt tr sd n u (by omega) (by omega) (by omega) (by omega)) (cwV 3 C.2.2.2.2.1 gX5_poke_X5_isRow rfl rfl rfl (by decide +kernel) ⟨Nat.le_of_ble_eq_true rfl, Nat.le_of_ble_eq_true rfl⟩) 0 rfl rfl rfl [0, 1] [] rfl rfl rfl rfl rfl (by decide) rfl rfl (Nat.le_of_ble_eq_true rfl) dX5_poke_9 ⟨Nat.le_of_ble_eq_true rfl, Nat.le_of_ble_eq_true rfl⟩ rfl ?_
  refine g_if_eq_b (tgt := 22) C dX5_poke_12 (by decide) (fun c12 => ?_) (fun c12 => ?_)
  · skip
    exact absurd (c12.symm.trans hp) (by decide)
  · skip
    refine g_lload C dX5_poke_15 4 rfl ?_
    refine g_lconst (v := 0) C dX5_poke_17 (by decide) ?_
    refine g_lcmp C dX5_poke_18 ?_
    refine g_if_ne (tgt := 24) C dX5_poke_19 (by decide) (fun c19 => ?_) (fun c19 => ?_)
    · skip
      exact absurd (lgc_eq.mpr hv) c19
    · skip
      refine g_iconst (v := nI 0) C dX5_poke_22 (by decide) ?_
      refine g_st (st2 := [.int (bI false)]) rfl ?_
      refine g_zret C dX5_poke_23 (by decide) (by decide) ?_
      exact ⟨rfl, rfl⟩
set_option maxHeartbeats 4000000 in
set_option maxRecDepth 100000 in
theorem c_X5_poke_f (l : Launch) (g : gE) (a : Nat → Nat) (th : Int32) (wk : Bool) (ro : Int32) (lo ne di : Nat) (ta : Bool) (ce fo bt : Nat) (tr : Nat → Bool) (sd n u : Nat) (v : Int64) (hs1 : sd < 2) (hn : n < 4) (hu : 1 ≤ u) (hu2 : u ≤ 64) (hp : tr (256 * sd + 64 * n + u - 1) = false) : Kt l g yX5_poke wsX5_poke 3 67 0 0 [.ref (a 0), .int (nI sd), .int (nI n), .int (nI u), .long v] [(a 0, oM a th (bI wk) ro (nI lo) (nI ne) (nI di) (bI ta) (nI ce) (nI fo) (nI bt)), (a 3, gZ g 512 tr)] (kR (some (.int (bI false))) [(a 0, oM a (nI 0) (bI wk) ro (nI lo) (nI ne) (nI di) (bI ta) (nI ce) (nI fo) (nI bt)), (a 3, gZ g 512 tr)]) := by
  have hinX5 : ∀ w ∈ wsX50, w ∈ wsX5_poke := by
    intro w h
    unfold wsX5_poke
    simp only [List.mem_cons, List.mem_append]
    simp only [h, or_true, true_or]
  refine g_enter (cc := cX5_poke) (maxL := 6) (ret := (some .boolean)) (own := RX5) (L := [(0, .ref (a 0)), (1, .int (nI sd)), (2, .int (nI n)), (3, .int (nI u)), (4, .long v)]) (by decide) rfl rfl (Nat.le_of_ble_eq_true rfl) rfl ?_
  intro p e s m args below meth c hin0 C
  refine g_aload_n C dX5_poke_0 rfl 0 rfl ?_
  refine g_iconst (v := nI 0) C dX5_poke_1 (by decide) ?_
  refine g_put (ty := .int) (w2 := [(a 0, oM a (nI 0) (bI wk) ro (nI lo) (nI ne) (nI di) (bI ta) (nI ce) (nI fo) (nI bt)), (a 3, gZ g 512 tr)]) C hinX5 0 rfl rfl 0 (by decide) (by decide +kernel) rfl tyX5 tyX5_ok nmX5 rfl (by decide +kernel) rfl rfl (Nat.le_of_ble_eq_true rfl) rfl dX5_poke_2 ?_
  refine g_aload_n C dX5_poke_5 rfl 0 rfl ?_
  refine g_iload_n C dX5_poke_6 rfl 1 rfl ?_
  refine g_iload_n C dX5_poke_7 rfl 2 rfl ?_
  refine g_iload_n C dX5_poke_8 rfl 3 rfl ?_
  refine g_callV1 (wr := []) (w2 := [(a 0, oM a (nI 0) (bI wk) ro (nI lo) (nI ne) (nI di) (bI ta) (nI ce) (nI fo) (nI bt)), (a 3, gZ g 512 tr)]) C (c_X5_isRow l g a (nI 0) wk ro lo ne di ta ce fo bt tr sd n u (by omega) (by omega) (by omega) (by omega)) (cwV 3 C.2.2.2.2.1 gX5_poke_X5_isRow rfl rfl rfl (by decide +kernel) ⟨Nat.le_of_ble_eq_true rfl, Nat.le_of_ble_eq_true rfl⟩) 0 rfl rfl rfl [0, 1] [] rfl rfl rfl rfl rfl (by decide) rfl rfl (Nat.le_of_ble_eq_true rfl) dX5_poke_9 ⟨Nat.le_of_ble_eq_true rfl, Nat.le_of_ble_eq_true rfl⟩ rfl ?_
  refine g_if_eq_b (tgt := 22) C dX5_poke_12 (by decide) (fun c12 => ?_) (fun c12 => ?_)
  · skip
    refine g_iconst (v := nI 0) C dX5_poke_22 (by decide) ?_
    refine g_st (st2 := [.int (bI false)]) rfl ?_
    refine g_zret C dX5_poke_23 (by decide) (by decide) ?_
    exact ⟨rfl, rfl⟩
  · skip
    exact absurd (hp.symm.trans c12) (by decide)
set_option maxHeartbeats 4000000 in
set_option maxRecDepth 100000 in
theorem c_X5_poke_bad (l : Launch) (g : gE) (a : Nat → Nat) (th : Int32) (wk : Bool) (ro : Int32) (lo ne di : Nat) (ta : Bool) (ce fo bt : Nat) (x y z : Int32) (v : Int64) (hb : (wiN x (nI 0) (nI 1) && wiN y (nI 0) (nI 3) && wiN z (nI 1) (nI 64)) = false) : Kt l g yX5_poke wsX5_poke 3 67 0 0 [.ref (a 0), .int x, .int y, .int z, .long v] [(a 0, oM a th (bI wk) ro (nI lo) (nI ne) (nI di) (bI ta) (nI ce) (nI fo) (nI bt))] (kR (some (.int (bI false))) [(a 0, oM a (nI 0) (bI wk) ro (nI lo) (nI ne) (nI di) (bI ta) (nI ce) (nI fo) (nI bt))]) := by
  have hinX5 : ∀ w ∈ wsX50, w ∈ wsX5_poke := by
    intro w h
    unfold wsX5_poke
    simp only [List.mem_cons, List.mem_append]
    simp only [h, or_true, true_or]
  refine g_enter (cc := cX5_poke) (maxL := 6) (ret := (some .boolean)) (own := RX5) (L := [(0, .ref (a 0)), (1, .int x), (2, .int y), (3, .int z), (4, .long v)]) (by decide) rfl rfl (Nat.le_of_ble_eq_true rfl) rfl ?_
  intro p e s m args below meth c hin0 C
  refine g_aload_n C dX5_poke_0 rfl 0 rfl ?_
  refine g_iconst (v := nI 0) C dX5_poke_1 (by decide) ?_
  refine g_put (ty := .int) (w2 := [(a 0, oM a (nI 0) (bI wk) ro (nI lo) (nI ne) (nI di) (bI ta) (nI ce) (nI fo) (nI bt))]) C hinX5 0 rfl rfl 0 (by decide) (by decide +kernel) rfl tyX5 tyX5_ok nmX5 rfl (by decide +kernel) rfl rfl (Nat.le_of_ble_eq_true rfl) rfl dX5_poke_2 ?_
  refine g_aload_n C dX5_poke_5 rfl 0 rfl ?_
  refine g_iload_n C dX5_poke_6 rfl 1 rfl ?_
  refine g_iload_n C dX5_poke_7 rfl 2 rfl ?_
  refine g_iload_n C dX5_poke_8 rfl 3 rfl ?_
  refine g_callV1 (wr := []) (w2 := [(a 0, oM a (nI 0) (bI wk) ro (nI lo) (nI ne) (nI di) (bI ta) (nI ce) (nI fo) (nI bt))]) C (c_X5_isRow_bad l g a (nI 0) wk ro lo ne di ta ce fo bt x y z (by omega)) (cwV 3 C.2.2.2.2.1 gX5_poke_X5_isRow rfl rfl rfl (by decide +kernel) ⟨Nat.le_of_ble_eq_true rfl, Nat.le_of_ble_eq_true rfl⟩) 0 rfl rfl rfl [0] [] rfl rfl rfl rfl rfl (by decide) rfl rfl (Nat.le_of_ble_eq_true rfl) dX5_poke_9 ⟨Nat.le_of_ble_eq_true rfl, Nat.le_of_ble_eq_true rfl⟩ rfl ?_
  refine g_if_eq_b (tgt := 22) C dX5_poke_12 (by decide) (fun c12 => ?_) (fun c12 => ?_)
  · skip
    refine g_iconst (v := nI 0) C dX5_poke_22 (by decide) ?_
    refine g_st (st2 := [.int (bI false)]) rfl ?_
    refine g_zret C dX5_poke_23 (by decide) (by decide) ?_
    exact ⟨rfl, rfl⟩
  · skip
    exact absurd c12 (by decide)
set_option maxHeartbeats 4000000 in
set_option maxRecDepth 100000 in
theorem c_X5_get_t (l : Launch) (g : gE) (a : Nat → Nat) (th : Int32) (wk : Bool) (ro : Int32) (lo ne di : Nat) (ta : Bool) (ce fo bt : Nat) (tr : Nat → Bool) (vw : Nat → Int64) (sd n u : Nat) (hs1 : sd < 2) (hn : n < 4) (hu : 1 ≤ u) (hu2 : u ≤ 64) (hp : tr (256 * sd + 64 * n + u - 1) = true) : Kt l g yX5_get wsX5_get 3 67 0 0 [.ref (a 0), .int (nI sd), .int (nI n), .int (nI u)] [(a 0, oM a th (bI wk) ro (nI lo) (nI ne) (nI di) (bI ta) (nI ce) (nI fo) (nI bt)), (a 3, gZ g 512 tr), (a 4, gJ g 512 vw)] (kR (some (.long (vw (256 * sd + 64 * n + u - 1)))) [(a 0, oM a (nI 0) (bI wk) ro (nI lo) (nI ne) (nI di) (bI ta) (nI ce) (nI fo) (nI bt)), (a 3, gZ g 512 tr), (a 4, gJ g 512 vw)]) := by
  have hinX5 : ∀ w ∈ wsX50, w ∈ wsX5_get := by
    intro w h
    unfold wsX5_get
    simp only [List.mem_cons, List.mem_append]
    simp only [h, or_true, true_or]
  refine g_enter (cc := cX5_get) (maxL := 4) (ret := (some .long)) (own := RX5) (L := [(0, .ref (a 0)), (1, .int (nI sd)), (2, .int (nI n)), (3, .int (nI u))]) (by decide) rfl rfl (Nat.le_of_ble_eq_true rfl) rfl ?_
  intro p e s m args below meth c hin0 C
  refine g_aload_n C dX5_get_0 rfl 0 rfl ?_
  refine g_aload_n C dX5_get_1 rfl 0 rfl ?_
  refine g_iload_n C dX5_get_2 rfl 1 rfl ?_
  refine g_iload_n C dX5_get_3 rfl 2 rfl ?_
  refine g_iload_n C dX5_get_4 rfl 3 rfl ?_
  refine g_callV1 (wr := [(a 4, gJ g 512 vw)]) (w2 := [(a 4, gJ g 512 vw), (a 0, oM a th (bI wk) ro (nI lo) (nI ne) (nI di) (bI ta) (nI ce) (nI fo) (nI bt)), (a 3, gZ g 512 tr)]) C (c_X5_isRow l g a th wk ro lo ne di ta ce fo bt tr sd n u (by omega) (by omega) (by omega) (by omega)) (cwV 3 C.2.2.2.2.1 gX5_get_X5_isRow rfl rfl rfl (by decide +kernel) ⟨Nat.le_of_ble_eq_true rfl, Nat.le_of_ble_eq_true rfl⟩) 0 rfl rfl rfl [0, 1] [2] rfl rfl rfl rfl rfl (by decide) rfl rfl (Nat.le_of_ble_eq_true rfl) dX5_get_5 ⟨Nat.le_of_ble_eq_true rfl, Nat.le_of_ble_eq_true rfl⟩ rfl ?_
  refine g_if_eq_b (tgt := 15) C dX5_get_8 (by decide) (fun c8 => ?_) (fun c8 => ?_)
  · skip
    exact absurd (c8.symm.trans hp) (by decide)
  · skip
    refine g_iconst (v := nI 0) C dX5_get_11 (by decide) ?_
    refine g_goto (tgt := 16) C dX5_get_12 (by decide) ?_
    refine g_put (ty := .int) (w2 := [(a 4, gJ g 512 vw), (a 0, oM a (nI 0) (bI wk) ro (nI lo) (nI ne) (nI di) (bI ta) (nI ce) (nI fo) (nI bt)), (a 3, gZ g 512 tr)]) C hinX5 1 rfl rfl 0 (by decide) (by decide +kernel) rfl tyX5 tyX5_ok nmX5 rfl (by decide +kernel) rfl rfl (Nat.le_of_ble_eq_true rfl) rfl dX5_get_16 ?_
    refine g_aload_n C dX5_get_19 rfl 0 rfl ?_
    refine g_get C hinX5 1 rfl rfl 0 (by decide) (by decide +kernel) rfl rfl dX5_get_20 ?_
    refine g_if_ne_n (tgt := 40) C dX5_get_23 (by decide) (by omega) (fun c23 => ?_) (fun c23 => ?_)
    · skip
      exfalso; omega
    · skip
      refine g_aload_n C dX5_get_26 rfl 0 rfl ?_
      refine g_get C hinX5 1 rfl rfl 3 (by decide) (by decide +kernel) rfl rfl dX5_get_27 ?_
      refine g_iload_n C dX5_get_30 rfl 1 rfl ?_
      refine g_iload_n C dX5_get_31 rfl 2 rfl ?_
      refine g_iload_n C dX5_get_32 rfl 3 rfl ?_
      refine g_callS1 (wr := [(a 4, gJ g 512 vw), (a 0, oM a (nI 0) (bI wk) ro (nI lo) (nI ne) (nI di) (bI ta) (nI ce) (nI fo) (nI bt)), (a 3, gZ g 512 tr)]) (w2 := [(a 4, gJ g 512 vw), (a 0, oM a (nI 0) (bI wk) ro (nI lo) (nI ne) (nI di) (bI ta) (nI ce) (nI fo) (nI bt)), (a 3, gZ g 512 tr)]) C (c_X5_at l g sd n u (by omega) (by omega) (by omega) (by omega)) (va_cwS 3 C.2.2.2.2.1 gX5_get_X5_at rfl rfl rfl (by decide +kernel) ⟨Nat.le_of_ble_eq_true rfl, Nat.le_of_ble_eq_true rfl⟩) [] [0, 1, 2] rfl rfl rfl rfl rfl (by decide) rfl rfl (Nat.le_of_ble_eq_true rfl) dX5_get_33 ⟨Nat.le_of_ble_eq_true rfl, Nat.le_of_ble_eq_true rfl⟩ rfl ?_
      refine g_lald C 0 rfl (by omega) (by decide) dX5_get_36 ?_
      refine g_goto (tgt := 41) C dX5_get_37 (by decide) ?_
      refine g_perm (w2 := [(a 0, oM a (nI 0) (bI wk) ro (nI lo) (nI ne) (nI di) (bI ta) (nI ce) (nI fo) (nI bt)), (a 3, gZ g 512 tr), (a 4, gJ g 512 vw)]) [1, 2, 0] rfl rfl rfl ?_
      refine g_lret C dX5_get_41 (by decide) (by decide) ?_
      exact ⟨rfl, rfl⟩
set_option maxHeartbeats 4000000 in
set_option maxRecDepth 100000 in
theorem c_X5_get_f (l : Launch) (g : gE) (a : Nat → Nat) (th : Int32) (wk : Bool) (ro : Int32) (lo ne di : Nat) (ta : Bool) (ce fo bt : Nat) (tr : Nat → Bool) (sd n u : Nat) (hs1 : sd < 2) (hn : n < 4) (hu : 1 ≤ u) (hu2 : u ≤ 64) (hp : tr (256 * sd + 64 * n + u - 1) = false) : Kt l g yX5_get wsX5_get 3 67 0 0 [.ref (a 0), .int (nI sd), .int (nI n), .int (nI u)] [(a 0, oM a th (bI wk) ro (nI lo) (nI ne) (nI di) (bI ta) (nI ce) (nI fo) (nI bt)), (a 3, gZ g 512 tr)] (kR (some (.long (0 : Int64))) [(a 0, oM a (nI 1) (bI wk) ro (nI lo) (nI ne) (nI di) (bI ta) (nI ce) (nI fo) (nI bt)), (a 3, gZ g 512 tr)]) := by
  have hinX5 : ∀ w ∈ wsX50, w ∈ wsX5_get := by
    intro w h
    unfold wsX5_get
    simp only [List.mem_cons, List.mem_append]
    simp only [h, or_true, true_or]
  refine g_enter (cc := cX5_get) (maxL := 4) (ret := (some .long)) (own := RX5) (L := [(0, .ref (a 0)), (1, .int (nI sd)), (2, .int (nI n)), (3, .int (nI u))]) (by decide) rfl rfl (Nat.le_of_ble_eq_true rfl) rfl ?_
  intro p e s m args below meth c hin0 C
  refine g_aload_n C dX5_get_0 rfl 0 rfl ?_
  refine g_aload_n C dX5_get_1 rfl 0 rfl ?_
  refine g_iload_n C dX5_get_2 rfl 1 rfl ?_
  refine g_iload_n C dX5_get_3 rfl 2 rfl ?_
  refine g_iload_n C dX5_get_4 rfl 3 rfl ?_
  refine g_callV1 (wr := []) (w2 := [(a 0, oM a th (bI wk) ro (nI lo) (nI ne) (nI di) (bI ta) (nI ce) (nI fo) (nI bt)), (a 3, gZ g 512 tr)]) C (c_X5_isRow l g a th wk ro lo ne di ta ce fo bt tr sd n u (by omega) (by omega) (by omega) (by omega)) (cwV 3 C.2.2.2.2.1 gX5_get_X5_isRow rfl rfl rfl (by decide +kernel) ⟨Nat.le_of_ble_eq_true rfl, Nat.le_of_ble_eq_true rfl⟩) 0 rfl rfl rfl [0, 1] [] rfl rfl rfl rfl rfl (by decide) rfl rfl (Nat.le_of_ble_eq_true rfl) dX5_get_5 ⟨Nat.le_of_ble_eq_true rfl, Nat.le_of_ble_eq_true rfl⟩ rfl ?_
  refine g_if_eq_b (tgt := 15) C dX5_get_8 (by decide) (fun c8 => ?_) (fun c8 => ?_)
  · skip
    refine g_iconst (v := nI 1) C dX5_get_15 (by decide) ?_
    refine g_put (ty := .int) (w2 := [(a 0, oM a (nI 1) (bI wk) ro (nI lo) (nI ne) (nI di) (bI ta) (nI ce) (nI fo) (nI bt)), (a 3, gZ g 512 tr)]) C hinX5 0 rfl rfl 0 (by decide) (by decide +kernel) rfl tyX5 tyX5_ok nmX5 rfl (by decide +kernel) rfl rfl (Nat.le_of_ble_eq_true rfl) rfl dX5_get_16 ?_
    refine g_aload_n C dX5_get_19 rfl 0 rfl ?_
    refine g_get C hinX5 0 rfl rfl 0 (by decide) (by decide +kernel) rfl rfl dX5_get_20 ?_
    refine g_if_ne_n (tgt := 40) C dX5_get_23 (by decide) (by omega) (fun c23 => ?_) (fun c23 => ?_)
    · skip
      refine g_lconst (v := 0) C dX5_get_40 (by decide) ?_
      refine g_lret C dX5_get_41 (by decide) (by decide) ?_
      exact ⟨rfl, rfl⟩
    · skip
      exfalso; omega
  · skip
    exact absurd (hp.symm.trans c8) (by decide)
set_option maxHeartbeats 4000000 in
set_option maxRecDepth 100000 in
theorem c_X5_get_bad (l : Launch) (g : gE) (a : Nat → Nat) (th : Int32) (wk : Bool) (ro : Int32) (lo ne di : Nat) (ta : Bool) (ce fo bt : Nat) (x y z : Int32) (hb : (wiN x (nI 0) (nI 1) && wiN y (nI 0) (nI 3) && wiN z (nI 1) (nI 64)) = false) : Kt l g yX5_get wsX5_get 3 67 0 0 [.ref (a 0), .int x, .int y, .int z] [(a 0, oM a th (bI wk) ro (nI lo) (nI ne) (nI di) (bI ta) (nI ce) (nI fo) (nI bt))] (kR (some (.long (0 : Int64))) [(a 0, oM a (nI 1) (bI wk) ro (nI lo) (nI ne) (nI di) (bI ta) (nI ce) (nI fo) (nI bt))]) := by
  have hinX5 : ∀ w ∈ wsX50, w ∈ wsX5_get := by
    intro w h
    unfold wsX5_get
    simp only [List.mem_cons, List.mem_append]
    simp only [h, or_true, true_or]
  refine g_enter (cc := cX5_get) (maxL := 4) (ret := (some .long)) (own := RX5) (L := [(0, .ref (a 0)), (1, .int x), (2, .int y), (3, .int z)]) (by decide) rfl rfl (Nat.le_of_ble_eq_true rfl) rfl ?_
  intro p e s m args below meth c hin0 C
  refine g_aload_n C dX5_get_0 rfl 0 rfl ?_
  refine g_aload_n C dX5_get_1 rfl 0 rfl ?_
  refine g_iload_n C dX5_get_2 rfl 1 rfl ?_
  refine g_iload_n C dX5_get_3 rfl 2 rfl ?_
  refine g_iload_n C dX5_get_4 rfl 3 rfl ?_
  refine g_callV1 (wr := []) (w2 := [(a 0, oM a th (bI wk) ro (nI lo) (nI ne) (nI di) (bI ta) (nI ce) (nI fo) (nI bt))]) C (c_X5_isRow_bad l g a th wk ro lo ne di ta ce fo bt x y z (by omega)) (cwV 3 C.2.2.2.2.1 gX5_get_X5_isRow rfl rfl rfl (by decide +kernel) ⟨Nat.le_of_ble_eq_true rfl, Nat.le_of_ble_eq_true rfl⟩) 0 rfl rfl rfl [0] [] rfl rfl rfl rfl rfl (by decide) rfl rfl (Nat.le_of_ble_eq_true rfl) dX5_get_5 ⟨Nat.le_of_ble_eq_true rfl, Nat.le_of_ble_eq_true rfl⟩ rfl ?_
  refine g_if_eq_b (tgt := 15) C dX5_get_8 (by decide) (fun c8 => ?_) (fun c8 => ?_)
  · skip
    refine g_iconst (v := nI 1) C dX5_get_15 (by decide) ?_
    refine g_put (ty := .int) (w2 := [(a 0, oM a (nI 1) (bI wk) ro (nI lo) (nI ne) (nI di) (bI ta) (nI ce) (nI fo) (nI bt))]) C hinX5 0 rfl rfl 0 (by decide) (by decide +kernel) rfl tyX5 tyX5_ok nmX5 rfl (by decide +kernel) rfl rfl (Nat.le_of_ble_eq_true rfl) rfl dX5_get_16 ?_
    refine g_aload_n C dX5_get_19 rfl 0 rfl ?_
    refine g_get C hinX5 0 rfl rfl 0 (by decide) (by decide +kernel) rfl rfl dX5_get_20 ?_
    refine g_if_ne_n (tgt := 40) C dX5_get_23 (by decide) (by omega) (fun c23 => ?_) (fun c23 => ?_)
    · skip
      refine g_lconst (v := 0) C dX5_get_40 (by decide) ?_
      refine g_lret C dX5_get_41 (by decide) (by decide) ?_
      exact ⟨rfl, rfl⟩
    · skip
      exfalso; omega
  · skip
    exact absurd c8 (by decide)
set_option maxHeartbeats 4000000 in
set_option maxRecDepth 100000 in
theorem c_X5_isAlike (l : Launch) (g : gE) (a : Nat → Nat) (th : Int32) (wk : Bool) (ro : Int32) (lo ne di : Nat) (ta : Bool) (ce fo bt : Nat) (hs : Nat → Bool) (kw : Nat → Bool) (kv : Nat → Int64) (fr : Nat → Bool) (dg : Nat → Int32) (sm : Nat → Int32) (rd : Nat → Int32) (tx : Nat → Int32) (wo : Nat → Int32) (ch : Nat → Int32) (wr : Nat → Int32) (r : Nat) (h2 : r < 64) : Kt l g yX5_isAlike wsX5_isAlike 6 145 0 0 [.ref (a 0), .int (nI r)] [(a 0, oM a th (bI wk) ro (nI lo) (nI ne) (nI di) (bI ta) (nI ce) (nI fo) (nI bt)), (a 2, gZ g 8 hs), (a 5, gZ g 512 kw), (a 6, gJ g 512 kv), (a 7, gZ g 2 fr), (a 8, gI g 4096 dg), (a 9, gI g 128 sm), (a 10, gI g 64 rd), (a 30, gI g 128 tx), (a 31, gI g 64 wo), (a 32, gI g 8 ch), (a 33, gI g 8 wr)] (kR (some (.int (bI (eqN 32 (rf2 kw hs kv rd (fr, (dg, sm, (bt, tx), (ch, wo, wr)))).2.1 (rf2 kw hs kv rd (fr, (dg, sm, (bt, tx), (ch, wo, wr)))).2.1 (32 * r) (32 * (64 + r)))))) [(a 0, oM a th (bI wk) ro (nI lo) (nI ne) (nI di) (bI ta) (nI ce) (nI fo) (nI ((rf2 kw hs kv rd (fr, (dg, sm, (bt, tx), (ch, wo, wr)))).2.2.2.1.1))), (a 2, gZ g 8 hs), (a 5, gZ g 512 kw), (a 6, gJ g 512 kv), (a 7, gZ g 2 ((rf2 kw hs kv rd (fr, (dg, sm, (bt, tx), (ch, wo, wr)))).1)), (a 8, gI g 4096 ((rf2 kw hs kv rd (fr, (dg, sm, (bt, tx), (ch, wo, wr)))).2.1)), (a 9, gI g 128 ((rf2 kw hs kv rd (fr, (dg, sm, (bt, tx), (ch, wo, wr)))).2.2.1)), (a 10, gI g 64 rd), (a 30, gI g 128 ((rf2 kw hs kv rd (fr, (dg, sm, (bt, tx), (ch, wo, wr)))).2.2.2.1.2)), (a 31, gI g 64 ((rf2 kw hs kv rd (fr, (dg, sm, (bt, tx), (ch, wo, wr)))).2.2.2.2.2.1)), (a 32, gI g 8 ((rf2 kw hs kv rd (fr, (dg, sm, (bt, tx), (ch, wo, wr)))).2.2.2.2.1)), (a 33, gI g 8 ((rf2 kw hs kv rd (fr, (dg, sm, (bt, tx), (ch, wo, wr)))).2.2.2.2.2.2))]) := by
  have hinX5 : ∀ w ∈ wsX50, w ∈ wsX5_isAlike := by
    intro w h
    unfold wsX5_isAlike
    simp only [List.mem_cons, List.mem_append]
    simp only [h, or_true, true_or]
  refine g_enter (cc := cX5_isAlike) (maxL := 3) (ret := (some .boolean)) (own := RX5) (L := [(0, .ref (a 0)), (1, .int (nI r))]) (by decide) rfl rfl (Nat.le_of_ble_eq_true rfl) rfl ?_
  intro p e s m args below meth c hin0 C
  refine g_aload_n C dX5_isAlike_0 rfl 0 rfl ?_
  refine g_iconst (v := nI 0) C dX5_isAlike_1 (by decide) ?_
  refine g_callV0 (wr := []) (w2 := [(a 0, oM a th (bI wk) ro (nI lo) (nI ne) (nI di) (bI ta) (nI ce) (nI fo) (nI ((rfR kw hs kv rd 0 (fr, (dg, sm, (bt, tx), (ch, wo, wr)))).2.2.2.1.1))), (a 2, gZ g 8 hs), (a 5, gZ g 512 kw), (a 6, gJ g 512 kv), (a 7, gZ g 2 ((rfR kw hs kv rd 0 (fr, (dg, sm, (bt, tx), (ch, wo, wr)))).1)), (a 8, gI g 4096 ((rfR kw hs kv rd 0 (fr, (dg, sm, (bt, tx), (ch, wo, wr)))).2.1)), (a 9, gI g 128 ((rfR kw hs kv rd 0 (fr, (dg, sm, (bt, tx), (ch, wo, wr)))).2.2.1)), (a 10, gI g 64 rd), (a 30, gI g 128 ((rfR kw hs kv rd 0 (fr, (dg, sm, (bt, tx), (ch, wo, wr)))).2.2.2.1.2)), (a 31, gI g 64 ((rfR kw hs kv rd 0 (fr, (dg, sm, (bt, tx), (ch, wo, wr)))).2.2.2.2.2.1)), (a 32, gI g 8 ((rfR kw hs kv rd 0 (fr, (dg, sm, (bt, tx), (ch, wo, wr)))).2.2.2.2.1)), (a 33, gI g 8 ((rfR kw hs kv rd 0 (fr, (dg, sm, (bt, tx), (ch, wo, wr)))).2.2.2.2.2.2))]) C (c_X5_refresh l g a th wk ro lo ne di ta ce fo bt hs kw kv fr dg sm rd tx wo ch wr 0 (by omega)) (cwV 1 C.2.2.2.2.1 gX5_isAlike_X5_refresh rfl rfl rfl (by decide +kernel) ⟨Nat.le_of_ble_eq_true rfl, Nat.le_of_ble_eq_true rfl⟩) 0 rfl rfl rfl [0, 1, 2, 3, 4, 5, 6, 7, 8, 9, 10, 11] [] rfl rfl rfl rfl rfl (by decide) rfl rfl (Nat.le_of_ble_eq_true rfl) dX5_isAlike_2 ⟨Nat.le_of_ble_eq_true rfl, Nat.le_of_ble_eq_true rfl⟩ rfl ?_
  refine g_aload_n C dX5_isAlike_5 rfl 0 rfl ?_
  refine g_iconst (v := nI 1) C dX5_isAlike_6 (by decide) ?_
  refine g_callV0 (wr := []) (w2 := [(a 0, oM a th (bI wk) ro (nI lo) (nI ne) (nI di) (bI ta) (nI ce) (nI fo) (nI ((rfR kw hs kv rd 1 (((rfR kw hs kv rd 0 (fr, (dg, sm, (bt, tx), (ch, wo, wr)))).1), (((rfR kw hs kv rd 0 (fr, (dg, sm, (bt, tx), (ch, wo, wr)))).2.1), ((rfR kw hs kv rd 0 (fr, (dg, sm, (bt, tx), (ch, wo, wr)))).2.2.1), (((rfR kw hs kv rd 0 (fr, (dg, sm, (bt, tx), (ch, wo, wr)))).2.2.2.1.1), ((rfR kw hs kv rd 0 (fr, (dg, sm, (bt, tx), (ch, wo, wr)))).2.2.2.1.2)), (((rfR kw hs kv rd 0 (fr, (dg, sm, (bt, tx), (ch, wo, wr)))).2.2.2.2.1), ((rfR kw hs kv rd 0 (fr, (dg, sm, (bt, tx), (ch, wo, wr)))).2.2.2.2.2.1), ((rfR kw hs kv rd 0 (fr, (dg, sm, (bt, tx), (ch, wo, wr)))).2.2.2.2.2.2))))).2.2.2.1.1))), (a 2, gZ g 8 hs), (a 5, gZ g 512 kw), (a 6, gJ g 512 kv), (a 7, gZ g 2 ((rfR kw hs kv rd 1 (((rfR kw hs kv rd 0 (fr, (dg, sm, (bt, tx), (ch, wo, wr)))).1), (((rfR kw hs kv rd 0 (fr, (dg, sm, (bt, tx), (ch, wo, wr)))).2.1), ((rfR kw hs kv rd 0 (fr, (dg, sm, (bt, tx), (ch, wo, wr)))).2.2.1), (((rfR kw hs kv rd 0 (fr, (dg, sm, (bt, tx), (ch, wo, wr)))).2.2.2.1.1), ((rfR kw hs kv rd 0 (fr, (dg, sm, (bt, tx), (ch, wo, wr)))).2.2.2.1.2)), (((rfR kw hs kv rd 0 (fr, (dg, sm, (bt, tx), (ch, wo, wr)))).2.2.2.2.1), ((rfR kw hs kv rd 0 (fr, (dg, sm, (bt, tx), (ch, wo, wr)))).2.2.2.2.2.1), ((rfR kw hs kv rd 0 (fr, (dg, sm, (bt, tx), (ch, wo, wr)))).2.2.2.2.2.2))))).1)), (a 8, gI g 4096 ((rfR kw hs kv rd 1 (((rfR kw hs kv rd 0 (fr, (dg, sm, (bt, tx), (ch, wo, wr)))).1), (((rfR kw hs kv rd 0 (fr, (dg, sm, (bt, tx), (ch, wo, wr)))).2.1), ((rfR kw hs kv rd 0 (fr, (dg, sm, (bt, tx), (ch, wo, wr)))).2.2.1), (((rfR kw hs kv rd 0 (fr, (dg, sm, (bt, tx), (ch, wo, wr)))).2.2.2.1.1), ((rfR kw hs kv rd 0 (fr, (dg, sm, (bt, tx), (ch, wo, wr)))).2.2.2.1.2)), (((rfR kw hs kv rd 0 (fr, (dg, sm, (bt, tx), (ch, wo, wr)))).2.2.2.2.1), ((rfR kw hs kv rd 0 (fr, (dg, sm, (bt, tx), (ch, wo, wr)))).2.2.2.2.2.1), ((rfR kw hs kv rd 0 (fr, (dg, sm, (bt, tx), (ch, wo, wr)))).2.2.2.2.2.2))))).2.1)), (a 9, gI g 128 ((rfR kw hs kv rd 1 (((rfR kw hs kv rd 0 (fr, (dg, sm, (bt, tx), (ch, wo, wr)))).1), (((rfR kw hs kv rd 0 (fr, (dg, sm, (bt, tx), (ch, wo, wr)))).2.1), ((rfR kw hs kv rd 0 (fr, (dg, sm, (bt, tx), (ch, wo, wr)))).2.2.1), (((rfR kw hs kv rd 0 (fr, (dg, sm, (bt, tx), (ch, wo, wr)))).2.2.2.1.1), ((rfR kw hs kv rd 0 (fr, (dg, sm, (bt, tx), (ch, wo, wr)))).2.2.2.1.2)), (((rfR kw hs kv rd 0 (fr, (dg, sm, (bt, tx), (ch, wo, wr)))).2.2.2.2.1), ((rfR kw hs kv rd 0 (fr, (dg, sm, (bt, tx), (ch, wo, wr)))).2.2.2.2.2.1), ((rfR kw hs kv rd 0 (fr, (dg, sm, (bt, tx), (ch, wo, wr)))).2.2.2.2.2.2))))).2.2.1)), (a 10, gI g 64 rd), (a 30, gI g 128 ((rfR kw hs kv rd 1 (((rfR kw hs kv rd 0 (fr, (dg, sm, (bt, tx), (ch, wo, wr)))).1), (((rfR kw hs kv rd 0 (fr, (dg, sm, (bt, tx), (ch, wo, wr)))).2.1), ((rfR kw hs kv rd 0 (fr, (dg, sm, (bt, tx), (ch, wo, wr)))).2.2.1), (((rfR kw hs kv rd 0 (fr, (dg, sm, (bt, tx), (ch, wo, wr)))).2.2.2.1.1), ((rfR kw hs kv rd 0 (fr, (dg, sm, (bt, tx), (ch, wo, wr)))).2.2.2.1.2)), (((rfR kw hs kv rd 0 (fr, (dg, sm, (bt, tx), (ch, wo, wr)))).2.2.2.2.1), ((rfR kw hs kv rd 0 (fr, (dg, sm, (bt, tx), (ch, wo, wr)))).2.2.2.2.2.1), ((rfR kw hs kv rd 0 (fr, (dg, sm, (bt, tx), (ch, wo, wr)))).2.2.2.2.2.2))))).2.2.2.1.2)), (a 31, gI g 64 ((rfR kw hs kv rd 1 (((rfR kw hs kv rd 0 (fr, (dg, sm, (bt, tx), (ch, wo, wr)))).1), (((rfR kw hs kv rd 0 (fr, (dg, sm, (bt, tx), (ch, wo, wr)))).2.1), ((rfR kw hs kv rd 0 (fr, (dg, sm, (bt, tx), (ch, wo, wr)))).2.2.1), (((rfR kw hs kv rd 0 (fr, (dg, sm, (bt, tx), (ch, wo, wr)))).2.2.2.1.1), ((rfR kw hs kv rd 0 (fr, (dg, sm, (bt, tx), (ch, wo, wr)))).2.2.2.1.2)), (((rfR kw hs kv rd 0 (fr, (dg, sm, (bt, tx), (ch, wo, wr)))).2.2.2.2.1), ((rfR kw hs kv rd 0 (fr, (dg, sm, (bt, tx), (ch, wo, wr)))).2.2.2.2.2.1), ((rfR kw hs kv rd 0 (fr, (dg, sm, (bt, tx), (ch, wo, wr)))).2.2.2.2.2.2))))).2.2.2.2.2.1)), (a 32, gI g 8 ((rfR kw hs kv rd 1 (((rfR kw hs kv rd 0 (fr, (dg, sm, (bt, tx), (ch, wo, wr)))).1), (((rfR kw hs kv rd 0 (fr, (dg, sm, (bt, tx), (ch, wo, wr)))).2.1), ((rfR kw hs kv rd 0 (fr, (dg, sm, (bt, tx), (ch, wo, wr)))).2.2.1), (((rfR kw hs kv rd 0 (fr, (dg, sm, (bt, tx), (ch, wo, wr)))).2.2.2.1.1), ((rfR kw hs kv rd 0 (fr, (dg, sm, (bt, tx), (ch, wo, wr)))).2.2.2.1.2)), (((rfR kw hs kv rd 0 (fr, (dg, sm, (bt, tx), (ch, wo, wr)))).2.2.2.2.1), ((rfR kw hs kv rd 0 (fr, (dg, sm, (bt, tx), (ch, wo, wr)))).2.2.2.2.2.1), ((rfR kw hs kv rd 0 (fr, (dg, sm, (bt, tx), (ch, wo, wr)))).2.2.2.2.2.2))))).2.2.2.2.1)), (a 33, gI g 8 ((rfR kw hs kv rd 1 (((rfR kw hs kv rd 0 (fr, (dg, sm, (bt, tx), (ch, wo, wr)))).1), (((rfR kw hs kv rd 0 (fr, (dg, sm, (bt, tx), (ch, wo, wr)))).2.1), ((rfR kw hs kv rd 0 (fr, (dg, sm, (bt, tx), (ch, wo, wr)))).2.2.1), (((rfR kw hs kv rd 0 (fr, (dg, sm, (bt, tx), (ch, wo, wr)))).2.2.2.1.1), ((rfR kw hs kv rd 0 (fr, (dg, sm, (bt, tx), (ch, wo, wr)))).2.2.2.1.2)), (((rfR kw hs kv rd 0 (fr, (dg, sm, (bt, tx), (ch, wo, wr)))).2.2.2.2.1), ((rfR kw hs kv rd 0 (fr, (dg, sm, (bt, tx), (ch, wo, wr)))).2.2.2.2.2.1), ((rfR kw hs kv rd 0 (fr, (dg, sm, (bt, tx), (ch, wo, wr)))).2.2.2.2.2.2))))).2.2.2.2.2.2))]) C (c_X5_refresh l g a th wk ro lo ne di ta ce fo ((rfR kw hs kv rd 0 (fr, (dg, sm, (bt, tx), (ch, wo, wr)))).2.2.2.1.1) hs kw kv ((rfR kw hs kv rd 0 (fr, (dg, sm, (bt, tx), (ch, wo, wr)))).1) ((rfR kw hs kv rd 0 (fr, (dg, sm, (bt, tx), (ch, wo, wr)))).2.1) ((rfR kw hs kv rd 0 (fr, (dg, sm, (bt, tx), (ch, wo, wr)))).2.2.1) rd ((rfR kw hs kv rd 0 (fr, (dg, sm, (bt, tx), (ch, wo, wr)))).2.2.2.1.2) ((rfR kw hs kv rd 0 (fr, (dg, sm, (bt, tx), (ch, wo, wr)))).2.2.2.2.2.1) ((rfR kw hs kv rd 0 (fr, (dg, sm, (bt, tx), (ch, wo, wr)))).2.2.2.2.1) ((rfR kw hs kv rd 0 (fr, (dg, sm, (bt, tx), (ch, wo, wr)))).2.2.2.2.2.2) 1 (by omega)) (cwV 1 C.2.2.2.2.1 gX5_isAlike_X5_refresh rfl rfl rfl (by decide +kernel) ⟨Nat.le_of_ble_eq_true rfl, Nat.le_of_ble_eq_true rfl⟩) 0 rfl rfl rfl [0, 1, 2, 3, 4, 5, 6, 7, 8, 9, 10, 11] [] rfl rfl rfl rfl rfl (by decide) rfl rfl (Nat.le_of_ble_eq_true rfl) dX5_isAlike_7 ⟨Nat.le_of_ble_eq_true rfl, Nat.le_of_ble_eq_true rfl⟩ rfl ?_
  refine g_iconst (v := nI 0) C dX5_isAlike_10 (by decide) ?_
  refine g_istore_n (L' := [(2, .int (nI 0)), (0, .ref (a 0)), (1, .int (nI r))]) C dX5_isAlike_11 rfl (by decide) rfl ?_
  refine g_up 32 0 (fun j => ∀ q, q < j → (rf2 kw hs kv rd (fr, (dg, sm, (bt, tx), (ch, wo, wr)))).2.1 (32 * r + q) = (rf2 kw hs kv rd (fr, (dg, sm, (bt, tx), (ch, wo, wr)))).2.1 (32 * (64 + r) + q)) (fun j => [(2, .int (nI j)), (0, .ref (a 0)), (1, .int (nI r))]) (fun j => [(a 0, oM a th (bI wk) ro (nI lo) (nI ne) (nI di) (bI ta) (nI ce) (nI fo) (nI ((rfR kw hs kv rd 1 (((rfR kw hs kv rd 0 (fr, (dg, sm, (bt, tx), (ch, wo, wr)))).1), (((rfR kw hs kv rd 0 (fr, (dg, sm, (bt, tx), (ch, wo, wr)))).2.1), ((rfR kw hs kv rd 0 (fr, (dg, sm, (bt, tx), (ch, wo, wr)))).2.2.1), (((rfR kw hs kv rd 0 (fr, (dg, sm, (bt, tx), (ch, wo, wr)))).2.2.2.1.1), ((rfR kw hs kv rd 0 (fr, (dg, sm, (bt, tx), (ch, wo, wr)))).2.2.2.1.2)), (((rfR kw hs kv rd 0 (fr, (dg, sm, (bt, tx), (ch, wo, wr)))).2.2.2.2.1), ((rfR kw hs kv rd 0 (fr, (dg, sm, (bt, tx), (ch, wo, wr)))).2.2.2.2.2.1), ((rfR kw hs kv rd 0 (fr, (dg, sm, (bt, tx), (ch, wo, wr)))).2.2.2.2.2.2))))).2.2.2.1.1))), (a 2, gZ g 8 hs), (a 5, gZ g 512 kw), (a 6, gJ g 512 kv), (a 7, gZ g 2 ((rfR kw hs kv rd 1 (((rfR kw hs kv rd 0 (fr, (dg, sm, (bt, tx), (ch, wo, wr)))).1), (((rfR kw hs kv rd 0 (fr, (dg, sm, (bt, tx), (ch, wo, wr)))).2.1), ((rfR kw hs kv rd 0 (fr, (dg, sm, (bt, tx), (ch, wo, wr)))).2.2.1), (((rfR kw hs kv rd 0 (fr, (dg, sm, (bt, tx), (ch, wo, wr)))).2.2.2.1.1), ((rfR kw hs kv rd 0 (fr, (dg, sm, (bt, tx), (ch, wo, wr)))).2.2.2.1.2)), (((rfR kw hs kv rd 0 (fr, (dg, sm, (bt, tx), (ch, wo, wr)))).2.2.2.2.1), ((rfR kw hs kv rd 0 (fr, (dg, sm, (bt, tx), (ch, wo, wr)))).2.2.2.2.2.1), ((rfR kw hs kv rd 0 (fr, (dg, sm, (bt, tx), (ch, wo, wr)))).2.2.2.2.2.2))))).1)), (a 8, gI g 4096 ((rfR kw hs kv rd 1 (((rfR kw hs kv rd 0 (fr, (dg, sm, (bt, tx), (ch, wo, wr)))).1), (((rfR kw hs kv rd 0 (fr, (dg, sm, (bt, tx), (ch, wo, wr)))).2.1), ((rfR kw hs kv rd 0 (fr, (dg, sm, (bt, tx), (ch, wo, wr)))).2.2.1), (((rfR kw hs kv rd 0 (fr, (dg, sm, (bt, tx), (ch, wo, wr)))).2.2.2.1.1), ((rfR kw hs kv rd 0 (fr, (dg, sm, (bt, tx), (ch, wo, wr)))).2.2.2.1.2)), (((rfR kw hs kv rd 0 (fr, (dg, sm, (bt, tx), (ch, wo, wr)))).2.2.2.2.1), ((rfR kw hs kv rd 0 (fr, (dg, sm, (bt, tx), (ch, wo, wr)))).2.2.2.2.2.1), ((rfR kw hs kv rd 0 (fr, (dg, sm, (bt, tx), (ch, wo, wr)))).2.2.2.2.2.2))))).2.1)), (a 9, gI g 128 ((rfR kw hs kv rd 1 (((rfR kw hs kv rd 0 (fr, (dg, sm, (bt, tx), (ch, wo, wr)))).1), (((rfR kw hs kv rd 0 (fr, (dg, sm, (bt, tx), (ch, wo, wr)))).2.1), ((rfR kw hs kv rd 0 (fr, (dg, sm, (bt, tx), (ch, wo, wr)))).2.2.1), (((rfR kw hs kv rd 0 (fr, (dg, sm, (bt, tx), (ch, wo, wr)))).2.2.2.1.1), ((rfR kw hs kv rd 0 (fr, (dg, sm, (bt, tx), (ch, wo, wr)))).2.2.2.1.2)), (((rfR kw hs kv rd 0 (fr, (dg, sm, (bt, tx), (ch, wo, wr)))).2.2.2.2.1), ((rfR kw hs kv rd 0 (fr, (dg, sm, (bt, tx), (ch, wo, wr)))).2.2.2.2.2.1), ((rfR kw hs kv rd 0 (fr, (dg, sm, (bt, tx), (ch, wo, wr)))).2.2.2.2.2.2))))).2.2.1)), (a 10, gI g 64 rd), (a 30, gI g 128 ((rfR kw hs kv rd 1 (((rfR kw hs kv rd 0 (fr, (dg, sm, (bt, tx), (ch, wo, wr)))).1), (((rfR kw hs kv rd 0 (fr, (dg, sm, (bt, tx), (ch, wo, wr)))).2.1), ((rfR kw hs kv rd 0 (fr, (dg, sm, (bt, tx), (ch, wo, wr)))).2.2.1), (((rfR kw hs kv rd 0 (fr, (dg, sm, (bt, tx), (ch, wo, wr)))).2.2.2.1.1), ((rfR kw hs kv rd 0 (fr, (dg, sm, (bt, tx), (ch, wo, wr)))).2.2.2.1.2)), (((rfR kw hs kv rd 0 (fr, (dg, sm, (bt, tx), (ch, wo, wr)))).2.2.2.2.1), ((rfR kw hs kv rd 0 (fr, (dg, sm, (bt, tx), (ch, wo, wr)))).2.2.2.2.2.1), ((rfR kw hs kv rd 0 (fr, (dg, sm, (bt, tx), (ch, wo, wr)))).2.2.2.2.2.2))))).2.2.2.1.2)), (a 31, gI g 64 ((rfR kw hs kv rd 1 (((rfR kw hs kv rd 0 (fr, (dg, sm, (bt, tx), (ch, wo, wr)))).1), (((rfR kw hs kv rd 0 (fr, (dg, sm, (bt, tx), (ch, wo, wr)))).2.1), ((rfR kw hs kv rd 0 (fr, (dg, sm, (bt, tx), (ch, wo, wr)))).2.2.1), (((rfR kw hs kv rd 0 (fr, (dg, sm, (bt, tx), (ch, wo, wr)))).2.2.2.1.1), ((rfR kw hs kv rd 0 (fr, (dg, sm, (bt, tx), (ch, wo, wr)))).2.2.2.1.2)), (((rfR kw hs kv rd 0 (fr, (dg, sm, (bt, tx), (ch, wo, wr)))).2.2.2.2.1), ((rfR kw hs kv rd 0 (fr, (dg, sm, (bt, tx), (ch, wo, wr)))).2.2.2.2.2.1), ((rfR kw hs kv rd 0 (fr, (dg, sm, (bt, tx), (ch, wo, wr)))).2.2.2.2.2.2))))).2.2.2.2.2.1)), (a 32, gI g 8 ((rfR kw hs kv rd 1 (((rfR kw hs kv rd 0 (fr, (dg, sm, (bt, tx), (ch, wo, wr)))).1), (((rfR kw hs kv rd 0 (fr, (dg, sm, (bt, tx), (ch, wo, wr)))).2.1), ((rfR kw hs kv rd 0 (fr, (dg, sm, (bt, tx), (ch, wo, wr)))).2.2.1), (((rfR kw hs kv rd 0 (fr, (dg, sm, (bt, tx), (ch, wo, wr)))).2.2.2.1.1), ((rfR kw hs kv rd 0 (fr, (dg, sm, (bt, tx), (ch, wo, wr)))).2.2.2.1.2)), (((rfR kw hs kv rd 0 (fr, (dg, sm, (bt, tx), (ch, wo, wr)))).2.2.2.2.1), ((rfR kw hs kv rd 0 (fr, (dg, sm, (bt, tx), (ch, wo, wr)))).2.2.2.2.2.1), ((rfR kw hs kv rd 0 (fr, (dg, sm, (bt, tx), (ch, wo, wr)))).2.2.2.2.2.2))))).2.2.2.2.1)), (a 33, gI g 8 ((rfR kw hs kv rd 1 (((rfR kw hs kv rd 0 (fr, (dg, sm, (bt, tx), (ch, wo, wr)))).1), (((rfR kw hs kv rd 0 (fr, (dg, sm, (bt, tx), (ch, wo, wr)))).2.1), ((rfR kw hs kv rd 0 (fr, (dg, sm, (bt, tx), (ch, wo, wr)))).2.2.1), (((rfR kw hs kv rd 0 (fr, (dg, sm, (bt, tx), (ch, wo, wr)))).2.2.2.1.1), ((rfR kw hs kv rd 0 (fr, (dg, sm, (bt, tx), (ch, wo, wr)))).2.2.2.1.2)), (((rfR kw hs kv rd 0 (fr, (dg, sm, (bt, tx), (ch, wo, wr)))).2.2.2.2.1), ((rfR kw hs kv rd 0 (fr, (dg, sm, (bt, tx), (ch, wo, wr)))).2.2.2.2.2.1), ((rfR kw hs kv rd 0 (fr, (dg, sm, (bt, tx), (ch, wo, wr)))).2.2.2.2.2.2))))).2.2.2.2.2.2))]) (by omega) (fun q hq => absurd hq (Nat.not_lt_zero q)) ?_ ?_
  · intro hPj
    try dsimp only
    refine g_iload_n C dX5_isAlike_12 rfl 0 rfl ?_
    refine g_bipush (v := nI 32) C dX5_isAlike_13 (by decide) ?_
    refine g_icmp_ge_n (tgt := 54) C dX5_isAlike_15 (by decide) (by omega) (by omega) (fun c15 => ?_) (fun c15 => ?_)
    · skip
      refine g_iconst (v := nI 1) C dX5_isAlike_54 (by decide) ?_
      refine g_st (st2 := [.int (bI true)]) rfl ?_
      refine g_zret C dX5_isAlike_55 (by decide) (by decide) ?_
      refine ⟨congrArg (fun b => some (Value.int (bI b))) ?_, rfl⟩
      exact (eqN_t hPj).symm
    · skip
      exfalso; omega
  · intro j hlj huj hPj ihj
    try dsimp only at ihj ⊢
    refine g_iload_n C dX5_isAlike_12 rfl 0 rfl ?_
    refine g_bipush (v := nI 32) C dX5_isAlike_13 (by decide) ?_
    refine g_icmp_ge_n (tgt := 54) C dX5_isAlike_15 (by decide) (by omega) (by omega) (fun c15 => ?_) (fun c15 => ?_)
    · skip
      exfalso; omega
    · skip
      refine g_aload_n C dX5_isAlike_18 rfl 1 rfl ?_
      refine g_get C hinX5 0 rfl rfl 7 (by decide) (by decide +kernel) rfl rfl dX5_isAlike_19 ?_
      refine g_bipush (v := nI 32) C dX5_isAlike_22 (by decide) ?_
      refine g_iload_n C dX5_isAlike_24 rfl 2 rfl ?_
      refine g_imul_n C dX5_isAlike_25 ?_
      refine g_iload_n C dX5_isAlike_26 rfl 0 rfl ?_
      refine g_iadd_n C dX5_isAlike_27 ?_
      refine g_iald C 5 rfl (by omega) (by decide) dX5_isAlike_28 ?_
      refine g_aload_n C dX5_isAlike_29 rfl 1 rfl ?_
      refine g_get C hinX5 0 rfl rfl 7 (by decide) (by decide +kernel) rfl rfl dX5_isAlike_30 ?_
      refine g_bipush (v := nI 32) C dX5_isAlike_33 (by decide) ?_
      refine g_bipush (v := nI 64) C dX5_isAlike_35 (by decide) ?_
      refine g_iload_n C dX5_isAlike_37 rfl 2 rfl ?_
      refine g_iadd_n C dX5_isAlike_38 ?_
      refine g_imul_n C dX5_isAlike_39 ?_
      refine g_iload_n C dX5_isAlike_40 rfl 0 rfl ?_
      refine g_iadd_n C dX5_isAlike_41 ?_
      refine g_iald C 5 rfl (by omega) (by decide) dX5_isAlike_42 ?_
      refine g_icmp_eq (tgt := 48) C dX5_isAlike_43 (by decide) (fun c43 => ?_) (fun c43 => ?_)
      · skip
        refine g_iinc_n (d := 1) (L' := [(2, .int (nI (j + 1))), (0, .ref (a 0)), (1, .int (nI r))]) C dX5_isAlike_48 0 rfl (by decide) (by decide) rfl ?_
        refine g_goto (tgt := 12) C dX5_isAlike_51 (by decide) ?_
        exact ihj (lt_s hPj c43)
      · skip
        refine g_iconst (v := nI 0) C dX5_isAlike_46 (by decide) ?_
        refine g_st (st2 := [.int (bI false)]) rfl ?_
        refine g_zret C dX5_isAlike_47 (by decide) (by decide) ?_
        refine ⟨congrArg (fun b => some (Value.int (bI b))) ?_, rfl⟩
        exact (eqN_f huj c43).symm
set_option maxHeartbeats 4000000 in
set_option maxRecDepth 100000 in
theorem c_X5_begin (l : Launch) (g : gE) (a : Nat → Nat) (th : Int32) (wk : Bool) (ro : Int32) (lo ne di : Nat) (ta : Bool) (ce fo bt : Nat) (lk : Nat → Nat) : Kt l g yX5_begin wsX5_begin 0 0 0 0 [.ref (a 0)] [(a 0, oM a th (bI wk) ro (nI lo) (nI ne) (nI di) (bI ta) (nI ce) (nI fo) (nI bt)), (a 14, gN g 64 lk)] (kR none [(a 0, oM a (nI 0) (bI true) (nI 0) (nI 1) (nI ne) (nI 0) (bI ta) (nI ce) (nI fo) (nI bt)), (a 14, gN g 64 (va_up lk 0 1))]) := by
  have hinX5 : ∀ w ∈ wsX50, w ∈ wsX5_begin := by
    intro w h
    unfold wsX5_begin
    simp only [List.mem_cons, List.mem_append]
    simp only [h, or_true, true_or]
  refine g_enter (cc := cX5_begin) (maxL := 1) (ret := none) (own := RX5) (L := [(0, .ref (a 0))]) (by decide) rfl rfl (Nat.le_of_ble_eq_true rfl) rfl ?_
  intro p e s m args below meth c hin0 C
  refine g_aload_n C dX5_begin_0 rfl 0 rfl ?_
  refine g_iconst (v := nI 0) C dX5_begin_1 (by decide) ?_
  refine g_put (ty := .int) (w2 := [(a 0, oM a (nI 0) (bI wk) ro (nI lo) (nI ne) (nI di) (bI ta) (nI ce) (nI fo) (nI bt)), (a 14, gN g 64 lk)]) C hinX5 0 rfl rfl 0 (by decide) (by decide +kernel) rfl tyX5 tyX5_ok nmX5 rfl (by decide +kernel) rfl rfl (Nat.le_of_ble_eq_true rfl) rfl dX5_begin_2 ?_
  refine g_aload_n C dX5_begin_5 rfl 0 rfl ?_
  refine g_iconst (v := nI 1) C dX5_begin_6 (by decide) ?_
  refine g_st (st2 := [.int (bI true), .ref (a 0)]) rfl ?_
  refine g_put (ty := .boolean) (w2 := [(a 0, oM a (nI 0) (bI true) ro (nI lo) (nI ne) (nI di) (bI ta) (nI ce) (nI fo) (nI bt)), (a 14, gN g 64 lk)]) C hinX5 0 rfl rfl 10 (by decide) (by decide +kernel) rfl tyX5 tyX5_ok nmX5 rfl (by decide +kernel) (nI_bI _) (fits_bI _) (Nat.le_of_ble_eq_true rfl) rfl dX5_begin_7 ?_
  refine g_aload_n C dX5_begin_10 rfl 0 rfl ?_
  refine g_iconst (v := nI 0) C dX5_begin_11 (by decide) ?_
  refine g_put (ty := .int) (w2 := [(a 0, oM a (nI 0) (bI true) (nI 0) (nI lo) (nI ne) (nI di) (bI ta) (nI ce) (nI fo) (nI bt)), (a 14, gN g 64 lk)]) C hinX5 0 rfl rfl 11 (by decide) (by decide +kernel) rfl tyX5 tyX5_ok nmX5 rfl (by decide +kernel) rfl rfl (Nat.le_of_ble_eq_true rfl) rfl dX5_begin_12 ?_
  refine g_aload_n C dX5_begin_15 rfl 0 rfl ?_
  refine g_iconst (v := nI 1) C dX5_begin_16 (by decide) ?_
  refine g_put (ty := .int) (w2 := [(a 0, oM a (nI 0) (bI true) (nI 0) (nI 1) (nI ne) (nI di) (bI ta) (nI ce) (nI fo) (nI bt)), (a 14, gN g 64 lk)]) C hinX5 0 rfl rfl 12 (by decide) (by decide +kernel) rfl tyX5 tyX5_ok nmX5 rfl (by decide +kernel) rfl rfl (Nat.le_of_ble_eq_true rfl) rfl dX5_begin_17 ?_
  refine g_aload_n C dX5_begin_20 rfl 0 rfl ?_
  refine g_get C hinX5 0 rfl rfl 13 (by decide) (by decide +kernel) rfl rfl dX5_begin_21 ?_
  refine g_iconst (v := nI 0) C dX5_begin_24 (by decide) ?_
  refine g_iconst (v := nI 1) C dX5_begin_25 (by decide) ?_
  refine g_nast (w2 := [(a 0, oM a (nI 0) (bI true) (nI 0) (nI 1) (nI ne) (nI di) (bI ta) (nI ce) (nI fo) (nI bt)), (a 14, gN g 64 (va_up lk 0 1))]) C 1 rfl (by omega) (by decide) rfl dX5_begin_26 ?_
  refine g_aload_n C dX5_begin_27 rfl 0 rfl ?_
  refine g_iconst (v := nI 0) C dX5_begin_28 (by decide) ?_
  refine g_put (ty := .int) (w2 := [(a 0, oM a (nI 0) (bI true) (nI 0) (nI 1) (nI ne) (nI 0) (bI ta) (nI ce) (nI fo) (nI bt)), (a 14, gN g 64 (va_up lk 0 1))]) C hinX5 0 rfl rfl 16 (by decide) (by decide +kernel) rfl tyX5 tyX5_ok nmX5 rfl (by decide +kernel) rfl rfl (Nat.le_of_ble_eq_true rfl) rfl dX5_begin_29 ?_
  refine g_vret C dX5_begin_32 (by decide) (by decide) ?_
  exact ⟨rfl, rfl⟩
set_option maxHeartbeats 4000000 in
set_option maxRecDepth 100000 in
theorem c_X5_tell (l : Launch) (g : gE) (a : Nat → Nat) (th : Int32) (wk : Bool) (ro : Int32) (lo ne di : Nat) (ta : Bool) (ce fo bt : Nat) (df : Nat → Int32) (kn k : Nat) (hd : di < 256) (hk : k < 256) : Kt l g yX5_tell wsX5_tell 0 0 0 0 [.ref (a 0), .int (nI kn), .int (nI k)] [(a 0, oM a th (bI wk) ro (nI lo) (nI ne) (nI di) (bI ta) (nI ce) (nI fo) (nI bt)), (a 18, gI g 768 df)] (kR none [(a 0, oM a th (bI wk) ro (nI lo) (nI ne) (nI ((tlD kn k (di, df)).1)) (bI ta) (nI ce) (nI fo) (nI bt)), (a 18, gI g 768 ((tlD kn k (di, df)).2))]) := by
  have hinX5 : ∀ w ∈ wsX50, w ∈ wsX5_tell := by
    intro w h
    unfold wsX5_tell
    simp only [List.mem_cons, List.mem_append]
    simp only [h, or_true, true_or]
  refine g_enter (cc := cX5_tell) (maxL := 3) (ret := none) (own := RX5) (L := [(0, .ref (a 0)), (1, .int (nI kn)), (2, .int (nI k))]) (by decide) rfl rfl (Nat.le_of_ble_eq_true rfl) rfl ?_
  intro p e s m args below meth c hin0 C
  refine g_aload_n C dX5_tell_0 rfl 0 rfl ?_
  refine g_get C hinX5 0 rfl rfl 17 (by decide) (by decide +kernel) rfl rfl dX5_tell_1 ?_
  refine g_iconst (v := nI 3) C dX5_tell_4 (by decide) ?_
  refine g_aload_n C dX5_tell_5 rfl 0 rfl ?_
  refine g_get C hinX5 0 rfl rfl 16 (by decide) (by decide +kernel) rfl rfl dX5_tell_6 ?_
  refine g_imul_n C dX5_tell_9 ?_
  refine g_iload_n C dX5_tell_10 rfl 1 rfl ?_
  refine g_iast (w2 := [(a 0, oM a th (bI wk) ro (nI lo) (nI ne) (nI di) (bI ta) (nI ce) (nI fo) (nI bt)), (a 18, gI g 768 (va_up df (3 * di) (nI kn)))]) C 1 rfl (by omega) (by decide) rfl dX5_tell_11 ?_
  refine g_aload_n C dX5_tell_12 rfl 0 rfl ?_
  refine g_get C hinX5 0 rfl rfl 17 (by decide) (by decide +kernel) rfl rfl dX5_tell_13 ?_
  refine g_iconst (v := nI 3) C dX5_tell_16 (by decide) ?_
  refine g_aload_n C dX5_tell_17 rfl 0 rfl ?_
  refine g_get C hinX5 0 rfl rfl 16 (by decide) (by decide +kernel) rfl rfl dX5_tell_18 ?_
  refine g_imul_n C dX5_tell_21 ?_
  refine g_iconst (v := nI 1) C dX5_tell_22 (by decide) ?_
  refine g_iadd_n C dX5_tell_23 ?_
  refine g_iload_n C dX5_tell_24 rfl 2 rfl ?_
  refine g_bipush (v := nI 64) C dX5_tell_25 (by decide) ?_
  refine g_idiv_n C dX5_tell_27 (by omega) (by omega) (by omega) ?_
  refine g_iast (w2 := [(a 0, oM a th (bI wk) ro (nI lo) (nI ne) (nI di) (bI ta) (nI ce) (nI fo) (nI bt)), (a 18, gI g 768 (va_up (va_up df (3 * di) (nI kn)) ((3 * di) + 1) (nI (k / 64))))]) C 1 rfl (by omega) (by decide) rfl dX5_tell_28 ?_
  refine g_aload_n C dX5_tell_29 rfl 0 rfl ?_
  refine g_get C hinX5 0 rfl rfl 17 (by decide) (by decide +kernel) rfl rfl dX5_tell_30 ?_
  refine g_iconst (v := nI 3) C dX5_tell_33 (by decide) ?_
  refine g_aload_n C dX5_tell_34 rfl 0 rfl ?_
  refine g_get C hinX5 0 rfl rfl 16 (by decide) (by decide +kernel) rfl rfl dX5_tell_35 ?_
  refine g_imul_n C dX5_tell_38 ?_
  refine g_iconst (v := nI 2) C dX5_tell_39 (by decide) ?_
  refine g_iadd_n C dX5_tell_40 ?_
  refine g_iload_n C dX5_tell_41 rfl 2 rfl ?_
  refine g_bipush (v := nI 64) C dX5_tell_42 (by decide) ?_
  refine g_irem_n C dX5_tell_44 (by omega) (by omega) (by omega) ?_
  refine g_iconst (v := nI 1) C dX5_tell_45 (by decide) ?_
  refine g_iadd_n C dX5_tell_46 ?_
  refine g_iast (w2 := [(a 0, oM a th (bI wk) ro (nI lo) (nI ne) (nI di) (bI ta) (nI ce) (nI fo) (nI bt)), (a 18, gI g 768 (va_up (va_up (va_up df (3 * di) (nI kn)) ((3 * di) + 1) (nI (k / 64))) ((3 * di) + 2) (nI ((k % 64) + 1))))]) C 1 rfl (by omega) (by decide) rfl dX5_tell_47 ?_
  refine g_aload_n C dX5_tell_48 rfl 0 rfl ?_
  refine g_dup C dX5_tell_49 rfl ?_
  refine g_get C hinX5 0 rfl rfl 16 (by decide) (by decide +kernel) rfl rfl dX5_tell_50 ?_
  refine g_iconst (v := nI 1) C dX5_tell_53 (by decide) ?_
  refine g_iadd_n C dX5_tell_54 ?_
  refine g_put (ty := .int) (w2 := [(a 0, oM a th (bI wk) ro (nI lo) (nI ne) (nI (di + 1)) (bI ta) (nI ce) (nI fo) (nI bt)), (a 18, gI g 768 (va_up (va_up (va_up df (3 * di) (nI kn)) ((3 * di) + 1) (nI (k / 64))) ((3 * di) + 2) (nI ((k % 64) + 1))))]) C hinX5 0 rfl rfl 16 (by decide) (by decide +kernel) rfl tyX5 tyX5_ok nmX5 rfl (by decide +kernel) rfl rfl (Nat.le_of_ble_eq_true rfl) rfl dX5_tell_55 ?_
  refine g_vret C dX5_tell_58 (by decide) (by decide) ?_
  exact ⟨rfl, rfl⟩
set_option maxHeartbeats 4000000 in
set_option maxRecDepth 100000 in
theorem c_X5_compare (l : Launch) (g : gE) (a : Nat → Nat) (th : Int32) (wk : Bool) (ro : Int32) (lo ne di : Nat) (ta : Bool) (ce fo bt : Nat) (hs : Nat → Bool) (tr : Nat → Bool) (vw : Nat → Int64) (df : Nat → Int32) (r : Nat) (h1 : 32 ≤ r) (h2 : r < 64) (hd : di + 8 ≤ 256) : Kt l g yX5_compare wsX5_compare 1 22 0 0 [.ref (a 0), .int (nI r)] [(a 0, oM a th (bI wk) ro (nI lo) (nI ne) (nI di) (bI ta) (nI ce) (nI fo) (nI bt)), (a 2, gZ g 8 hs), (a 3, gZ g 512 tr), (a 4, gJ g 512 vw), (a 18, gI g 768 df)] (kR none [(a 0, oM a th (bI wk) ro (nI lo) (nI ne) (nI ((cmL tr hs vw (8 * (r - 32)) (di, df) 8).1)) (bI ta) (nI ce) (nI fo) (nI bt)), (a 2, gZ g 8 hs), (a 3, gZ g 512 tr), (a 4, gJ g 512 vw), (a 18, gI g 768 ((cmL tr hs vw (8 * (r - 32)) (di, df) 8).2))]) := by
  have hinX5 : ∀ w ∈ wsX50, w ∈ wsX5_compare := by
    intro w h
    unfold wsX5_compare
    simp only [List.mem_cons, List.mem_append]
    simp only [h, or_true, true_or]
  refine g_enter (cc := cX5_compare) (maxL := 5) (ret := none) (own := RX5) (L := [(0, .ref (a 0)), (1, .int (nI r))]) (by decide) rfl rfl (Nat.le_of_ble_eq_true rfl) rfl ?_
  intro p e s m args below meth c hin0 C
  refine g_bipush (v := nI 8) C dX5_compare_0 (by decide) ?_
  refine g_iload_n C dX5_compare_2 rfl 1 rfl ?_
  refine g_bipush (v := nI 32) C dX5_compare_3 (by decide) ?_
  refine g_isub_n C dX5_compare_5 (by omega) ?_
  refine g_imul_n C dX5_compare_6 ?_
  refine g_istore_n (L' := [(2, .int (nI (8 * (r - 32)))), (0, .ref (a 0)), (1, .int (nI r))]) C dX5_compare_7 rfl (by decide) rfl ?_
  refine g_L (L2 := [(0, .ref (a 0)), (1, .int (nI r)), (2, .int (nI (8 * (r - 32))))]) [1, 2, 0] rfl ?_
  refine g_up 8 0 (fun _ => True) (fun j => [(0, .ref (a 0)), (1, .int (nI r)), (2, .int (nI (8 * (r - 32) + j)))]) (fun j => [(a 0, oM a th (bI wk) ro (nI lo) (nI ne) (nI ((cmL tr hs vw (8 * (r - 32)) (di, df) j).1)) (bI ta) (nI ce) (nI fo) (nI bt)), (a 2, gZ g 8 hs), (a 3, gZ g 512 tr), (a 4, gJ g 512 vw), (a 18, gI g 768 ((cmL tr hs vw (8 * (r - 32)) (di, df) j).2))]) (by omega) (trivial) ?_ ?_
  · intro hPj
    try dsimp only
    refine g_iload_n C dX5_compare_8 rfl 2 rfl ?_
    refine g_bipush (v := nI 8) C dX5_compare_9 (by decide) ?_
    refine g_iload_n C dX5_compare_11 rfl 1 rfl ?_
    refine g_bipush (v := nI 32) C dX5_compare_12 (by decide) ?_
    refine g_isub_n C dX5_compare_14 (by omega) ?_
    refine g_imul_n C dX5_compare_15 ?_
    refine g_bipush (v := nI 8) C dX5_compare_16 (by decide) ?_
    refine g_iadd_n C dX5_compare_18 ?_
    refine g_icmp_ge_n (tgt := 126) C dX5_compare_19 (by decide) (by omega) (by omega) (fun c19 => ?_) (fun c19 => ?_)
    · skip
      refine g_vret C dX5_compare_126 (by decide) (by decide) ?_
      exact ⟨rfl, rfl⟩
    · skip
      exfalso; omega
  · intro j hlj huj hPj ihj
    try dsimp only at ihj ⊢
    have hb := cmL_le tr hs vw (8 * (r - 32)) (di, df) j
    change _ ≤ di + j at hb
    refine g_iload_n C dX5_compare_8 rfl 2 rfl ?_
    refine g_bipush (v := nI 8) C dX5_compare_9 (by decide) ?_
    refine g_iload_n C dX5_compare_11 rfl 1 rfl ?_
    refine g_bipush (v := nI 32) C dX5_compare_12 (by decide) ?_
    refine g_isub_n C dX5_compare_14 (by omega) ?_
    refine g_imul_n C dX5_compare_15 ?_
    refine g_bipush (v := nI 8) C dX5_compare_16 (by decide) ?_
    refine g_iadd_n C dX5_compare_18 ?_
    refine g_icmp_ge_n (tgt := 126) C dX5_compare_19 (by decide) (by omega) (by omega) (fun c19 => ?_) (fun c19 => ?_)
    · skip
      exfalso; omega
    · skip
      refine g_aload_n C dX5_compare_22 rfl 0 rfl ?_
      refine g_iload_n C dX5_compare_23 rfl 2 rfl ?_
      refine g_bipush (v := nI 64) C dX5_compare_24 (by decide) ?_
      refine g_idiv_n C dX5_compare_26 (by omega) (by omega) (by omega) ?_
      refine g_callV1 (wr := [(a 3, gZ g 512 tr), (a 4, gJ g 512 vw), (a 18, gI g 768 ((cmL tr hs vw (8 * (r - 32)) (di, df) j).2))]) (w2 := [(a 3, gZ g 512 tr), (a 4, gJ g 512 vw), (a 18, gI g 768 ((cmL tr hs vw (8 * (r - 32)) (di, df) j).2)), (a 0, oM a th (bI wk) ro (nI lo) (nI ne) (nI ((cmL tr hs vw (8 * (r - 32)) (di, df) j).1)) (bI ta) (nI ce) (nI fo) (nI bt)), (a 2, gZ g 8 hs)]) C (c_X5_counts l g a th wk ro lo ne ((cmL tr hs vw (8 * (r - 32)) (di, df) j).1) ta ce fo bt hs ((8 * (r - 32) + j) / 64) (by omega)) (cwV 1 C.2.2.2.2.1 gX5_compare_X5_counts rfl rfl rfl (by decide +kernel) ⟨Nat.le_of_ble_eq_true rfl, Nat.le_of_ble_eq_true rfl⟩) 0 rfl rfl rfl [0, 1] [2, 3, 4] rfl rfl rfl rfl rfl (by decide) rfl rfl (Nat.le_of_ble_eq_true rfl) dX5_compare_27 ⟨Nat.le_of_ble_eq_true rfl, Nat.le_of_ble_eq_true rfl⟩ rfl ?_
      refine g_if_ne_b (tgt := 36) C dX5_compare_30 (by decide) (fun c30 => ?_) (fun c30 => ?_)
      · skip
        refine g_aload_n C dX5_compare_36 rfl 0 rfl ?_
        refine g_get C hinX5 3 rfl rfl 2 (by decide) (by decide +kernel) rfl rfl dX5_compare_37 ?_
        refine g_iload_n C dX5_compare_40 rfl 2 rfl ?_
        refine g_zald C 0 rfl (by omega) (by decide) dX5_compare_41 ?_
        refine g_istore_n (L' := [(3, .int (bI (tr (8 * (r - 32) + j)))), (0, .ref (a 0)), (1, .int (nI r)), (2, .int (nI (8 * (r - 32) + j)))]) C dX5_compare_42 rfl (by decide) rfl ?_
        refine g_aload_n C dX5_compare_43 rfl 1 rfl ?_
        refine g_get C hinX5 3 rfl rfl 2 (by decide) (by decide +kernel) rfl rfl dX5_compare_44 ?_
        refine g_sipush (v := nI 256) C dX5_compare_47 (by decide) ?_
        refine g_iload_n C dX5_compare_50 rfl 3 rfl ?_
        refine g_iadd_n C dX5_compare_51 ?_
        refine g_zald C 0 rfl (by omega) (by decide) dX5_compare_52 ?_
        refine g_istore (L' := [(4, .int (bI (tr (256 + (8 * (r - 32) + j))))), (3, .int (bI (tr (8 * (r - 32) + j)))), (0, .ref (a 0)), (1, .int (nI r)), (2, .int (nI (8 * (r - 32) + j)))]) C dX5_compare_53 (by decide) rfl ?_
        refine g_iload_n C dX5_compare_55 rfl 1 rfl ?_
        refine g_if_eq_b (tgt := 70) C dX5_compare_56 (by decide) (fun c56 => ?_) (fun c56 => ?_)
        · skip
          refine g_iload C dX5_compare_70 0 rfl ?_
          refine g_if_eq_b (tgt := 85) C dX5_compare_72 (by decide) (fun c72 => ?_) (fun c72 => ?_)
          · skip
            refine g_iload_n C dX5_compare_85 rfl 1 rfl ?_
            refine g_if_eq_b (tgt := 120) C dX5_compare_86 (by decide) (fun c86 => ?_) (fun c86 => ?_)
            · skip
              rw [show cmL tr hs vw (8 * (r - 32)) (di, df) (j + 1) = _ from cmS_4 c30 c56 c72] at ihj
              refine g_iinc_n (d := 1) (L' := [(2, .int (nI ((8 * (r - 32) + j) + 1))), (4, .int (bI (tr (256 + (8 * (r - 32) + j))))), (3, .int (bI (tr (8 * (r - 32) + j)))), (0, .ref (a 0)), (1, .int (nI r))]) C dX5_compare_120 4 rfl (by decide) (by decide) rfl ?_
              refine g_goto (tgt := 8) C dX5_compare_123 (by decide) ?_
              refine g_L (L2 := [(0, .ref (a 0)), (1, .int (nI r)), (2, .int (nI ((8 * (r - 32) + j) + 1)))]) [3, 4, 0] rfl ?_
              refine g_perm (w2 := [(a 0, oM a th (bI wk) ro (nI lo) (nI ne) (nI ((cmL tr hs vw (8 * (r - 32)) (di, df) j).1)) (bI ta) (nI ce) (nI fo) (nI bt)), (a 2, gZ g 8 hs), (a 3, gZ g 512 tr), (a 4, gJ g 512 vw), (a 18, gI g 768 ((cmL tr hs vw (8 * (r - 32)) (di, df) j).2))]) [3, 4, 0, 1, 2] rfl rfl rfl ?_
              exact ihj (trivial)
            · skip
              exact absurd (c56.symm.trans c86) (by decide)
          · skip
            refine g_iload_n C dX5_compare_75 rfl 1 rfl ?_
            refine g_if_ne_b (tgt := 85) C dX5_compare_76 (by decide) (fun c76 => ?_) (fun c76 => ?_)
            · skip
              exact absurd (c56.symm.trans c76) (by decide)
            · skip
              refine g_aload_n C dX5_compare_79 rfl 2 rfl ?_
              refine g_iconst (v := nI 1) C dX5_compare_80 (by decide) ?_
              refine g_iload_n C dX5_compare_81 rfl 4 rfl ?_
              refine g_callV0 (wr := [(a 3, gZ g 512 tr), (a 4, gJ g 512 vw), (a 2, gZ g 8 hs)]) (w2 := [(a 3, gZ g 512 tr), (a 4, gJ g 512 vw), (a 2, gZ g 8 hs), (a 0, oM a th (bI wk) ro (nI lo) (nI ne) (nI ((tlD 1 (8 * (r - 32) + j) (((cmL tr hs vw (8 * (r - 32)) (di, df) j).1), ((cmL tr hs vw (8 * (r - 32)) (di, df) j).2))).1)) (bI ta) (nI ce) (nI fo) (nI bt)), (a 18, gI g 768 ((tlD 1 (8 * (r - 32) + j) (((cmL tr hs vw (8 * (r - 32)) (di, df) j).1), ((cmL tr hs vw (8 * (r - 32)) (di, df) j).2))).2))]) C (c_X5_tell l g a th wk ro lo ne ((cmL tr hs vw (8 * (r - 32)) (di, df) j).1) ta ce fo bt ((cmL tr hs vw (8 * (r - 32)) (di, df) j).2) 1 (8 * (r - 32) + j) (by omega) (by omega)) (cwV 2 C.2.2.2.2.1 gX5_compare_X5_tell rfl rfl rfl (by decide +kernel) ⟨Nat.le_of_ble_eq_true rfl, Nat.le_of_ble_eq_true rfl⟩) 3 rfl rfl rfl [3, 2] [0, 1, 4] rfl rfl rfl rfl rfl (by decide) rfl rfl (Nat.le_of_ble_eq_true rfl) dX5_compare_82 ⟨Nat.le_of_ble_eq_true rfl, Nat.le_of_ble_eq_true rfl⟩ rfl ?_
              refine g_iload_n C dX5_compare_85 rfl 1 rfl ?_
              refine g_if_eq_b (tgt := 120) C dX5_compare_86 (by decide) (fun c86 => ?_) (fun c86 => ?_)
              · skip
                rw [show cmL tr hs vw (8 * (r - 32)) (di, df) (j + 1) = _ from cmS_1 c30 c56 c72] at ihj
                refine g_iinc_n (d := 1) (L' := [(2, .int (nI ((8 * (r - 32) + j) + 1))), (4, .int (bI (tr (256 + (8 * (r - 32) + j))))), (3, .int (bI (tr (8 * (r - 32) + j)))), (0, .ref (a 0)), (1, .int (nI r))]) C dX5_compare_120 4 rfl (by decide) (by decide) rfl ?_
                refine g_goto (tgt := 8) C dX5_compare_123 (by decide) ?_
                refine g_L (L2 := [(0, .ref (a 0)), (1, .int (nI r)), (2, .int (nI ((8 * (r - 32) + j) + 1)))]) [3, 4, 0] rfl ?_
                refine g_perm (w2 := [(a 0, oM a th (bI wk) ro (nI lo) (nI ne) (nI ((tlD 1 (8 * (r - 32) + j) (((cmL tr hs vw (8 * (r - 32)) (di, df) j).1), ((cmL tr hs vw (8 * (r - 32)) (di, df) j).2))).1)) (bI ta) (nI ce) (nI fo) (nI bt)), (a 2, gZ g 8 hs), (a 3, gZ g 512 tr), (a 4, gJ g 512 vw), (a 18, gI g 768 ((tlD 1 (8 * (r - 32) + j) (((cmL tr hs vw (8 * (r - 32)) (di, df) j).1), ((cmL tr hs vw (8 * (r - 32)) (di, df) j).2))).2))]) [3, 2, 0, 1, 4] rfl rfl rfl ?_
                exact ihj (trivial)
              · skip
                exact absurd (c56.symm.trans c86) (by decide)
        · skip
          refine g_iload C dX5_compare_59 0 rfl ?_
          refine g_if_ne_b (tgt := 70) C dX5_compare_61 (by decide) (fun c61 => ?_) (fun c61 => ?_)
          · skip
            refine g_iload C dX5_compare_70 0 rfl ?_
            refine g_if_eq_b (tgt := 85) C dX5_compare_72 (by decide) (fun c72 => ?_) (fun c72 => ?_)
            · skip
              exact absurd (c61.symm.trans c72) (by decide)
            · skip
              refine g_iload_n C dX5_compare_75 rfl 1 rfl ?_
              refine g_if_ne_b (tgt := 85) C dX5_compare_76 (by decide) (fun c76 => ?_) (fun c76 => ?_)
              · skip
                refine g_iload_n C dX5_compare_85 rfl 1 rfl ?_
                refine g_if_eq_b (tgt := 120) C dX5_compare_86 (by decide) (fun c86 => ?_) (fun c86 => ?_)
                · skip
                  exact absurd (c56.symm.trans c86) (by decide)
                · skip
                  refine g_iload C dX5_compare_89 0 rfl ?_
                  refine g_if_eq_b (tgt := 120) C dX5_compare_91 (by decide) (fun c91 => ?_) (fun c91 => ?_)
                  · skip
                    exact absurd (c61.symm.trans c91) (by decide)
                  · skip
                    refine g_aload_n C dX5_compare_94 rfl 2 rfl ?_
                    refine g_get C hinX5 3 rfl rfl 3 (by decide) (by decide +kernel) rfl rfl dX5_compare_95 ?_
                    refine g_iload_n C dX5_compare_98 rfl 4 rfl ?_
                    refine g_lald C 1 rfl (by omega) (by decide) dX5_compare_99 ?_
                    refine g_aload_n C dX5_compare_100 rfl 2 rfl ?_
                    refine g_get C hinX5 3 rfl rfl 3 (by decide) (by decide +kernel) rfl rfl dX5_compare_101 ?_
                    refine g_sipush (v := nI 256) C dX5_compare_104 (by decide) ?_
                    refine g_iload_n C dX5_compare_107 rfl 4 rfl ?_
                    refine g_iadd_n C dX5_compare_108 ?_
                    refine g_lald C 1 rfl (by omega) (by decide) dX5_compare_109 ?_
                    refine g_lcmp C dX5_compare_110 ?_
                    refine g_if_eq (tgt := 120) C dX5_compare_111 (by decide) (fun c111 => ?_) (fun c111 => ?_)
                    · skip
                      rw [show cmL tr hs vw (8 * (r - 32)) (di, df) (j + 1) = _ from cmS_3 c30 c56 c61 (neL_f c111)] at ihj
                      refine g_iinc_n (d := 1) (L' := [(2, .int (nI ((8 * (r - 32) + j) + 1))), (4, .int (bI (tr (256 + (8 * (r - 32) + j))))), (3, .int (bI (tr (8 * (r - 32) + j)))), (0, .ref (a 0)), (1, .int (nI r))]) C dX5_compare_120 4 rfl (by decide) (by decide) rfl ?_
                      refine g_goto (tgt := 8) C dX5_compare_123 (by decide) ?_
                      refine g_L (L2 := [(0, .ref (a 0)), (1, .int (nI r)), (2, .int (nI ((8 * (r - 32) + j) + 1)))]) [3, 4, 0] rfl ?_
                      refine g_perm (w2 := [(a 0, oM a th (bI wk) ro (nI lo) (nI ne) (nI ((cmL tr hs vw (8 * (r - 32)) (di, df) j).1)) (bI ta) (nI ce) (nI fo) (nI bt)), (a 2, gZ g 8 hs), (a 3, gZ g 512 tr), (a 4, gJ g 512 vw), (a 18, gI g 768 ((cmL tr hs vw (8 * (r - 32)) (di, df) j).2))]) [3, 4, 0, 1, 2] rfl rfl rfl ?_
                      exact ihj (trivial)
                    · skip
                      refine g_aload_n C dX5_compare_114 rfl 2 rfl ?_
                      refine g_iconst (v := nI 2) C dX5_compare_115 (by decide) ?_
                      refine g_iload_n C dX5_compare_116 rfl 4 rfl ?_
                      refine g_callV0 (wr := [(a 3, gZ g 512 tr), (a 4, gJ g 512 vw), (a 2, gZ g 8 hs)]) (w2 := [(a 3, gZ g 512 tr), (a 4, gJ g 512 vw), (a 2, gZ g 8 hs), (a 0, oM a th (bI wk) ro (nI lo) (nI ne) (nI ((tlD 2 (8 * (r - 32) + j) (((cmL tr hs vw (8 * (r - 32)) (di, df) j).1), ((cmL tr hs vw (8 * (r - 32)) (di, df) j).2))).1)) (bI ta) (nI ce) (nI fo) (nI bt)), (a 18, gI g 768 ((tlD 2 (8 * (r - 32) + j) (((cmL tr hs vw (8 * (r - 32)) (di, df) j).1), ((cmL tr hs vw (8 * (r - 32)) (di, df) j).2))).2))]) C (c_X5_tell l g a th wk ro lo ne ((cmL tr hs vw (8 * (r - 32)) (di, df) j).1) ta ce fo bt ((cmL tr hs vw (8 * (r - 32)) (di, df) j).2) 2 (8 * (r - 32) + j) (by omega) (by omega)) (cwV 2 C.2.2.2.2.1 gX5_compare_X5_tell rfl rfl rfl (by decide +kernel) ⟨Nat.le_of_ble_eq_true rfl, Nat.le_of_ble_eq_true rfl⟩) 3 rfl rfl rfl [3, 2] [0, 1, 4] rfl rfl rfl rfl rfl (by decide) rfl rfl (Nat.le_of_ble_eq_true rfl) dX5_compare_117 ⟨Nat.le_of_ble_eq_true rfl, Nat.le_of_ble_eq_true rfl⟩ rfl ?_
                      rw [show cmL tr hs vw (8 * (r - 32)) (di, df) (j + 1) = _ from cmS_2 c30 c56 c61 (neL_t c111)] at ihj
                      refine g_iinc_n (d := 1) (L' := [(2, .int (nI ((8 * (r - 32) + j) + 1))), (4, .int (bI (tr (256 + (8 * (r - 32) + j))))), (3, .int (bI (tr (8 * (r - 32) + j)))), (0, .ref (a 0)), (1, .int (nI r))]) C dX5_compare_120 4 rfl (by decide) (by decide) rfl ?_
                      refine g_goto (tgt := 8) C dX5_compare_123 (by decide) ?_
                      refine g_L (L2 := [(0, .ref (a 0)), (1, .int (nI r)), (2, .int (nI ((8 * (r - 32) + j) + 1)))]) [3, 4, 0] rfl ?_
                      refine g_perm (w2 := [(a 0, oM a th (bI wk) ro (nI lo) (nI ne) (nI ((tlD 2 (8 * (r - 32) + j) (((cmL tr hs vw (8 * (r - 32)) (di, df) j).1), ((cmL tr hs vw (8 * (r - 32)) (di, df) j).2))).1)) (bI ta) (nI ce) (nI fo) (nI bt)), (a 2, gZ g 8 hs), (a 3, gZ g 512 tr), (a 4, gJ g 512 vw), (a 18, gI g 768 ((tlD 2 (8 * (r - 32) + j) (((cmL tr hs vw (8 * (r - 32)) (di, df) j).1), ((cmL tr hs vw (8 * (r - 32)) (di, df) j).2))).2))]) [3, 2, 0, 1, 4] rfl rfl rfl ?_
                      exact ihj (trivial)
              · skip
                exact absurd (c56.symm.trans c76) (by decide)
          · skip
            refine g_aload_n C dX5_compare_64 rfl 2 rfl ?_
            refine g_iconst (v := nI 0) C dX5_compare_65 (by decide) ?_
            refine g_iload_n C dX5_compare_66 rfl 4 rfl ?_
            refine g_callV0 (wr := [(a 3, gZ g 512 tr), (a 4, gJ g 512 vw), (a 2, gZ g 8 hs)]) (w2 := [(a 3, gZ g 512 tr), (a 4, gJ g 512 vw), (a 2, gZ g 8 hs), (a 0, oM a th (bI wk) ro (nI lo) (nI ne) (nI ((tlD 0 (8 * (r - 32) + j) (((cmL tr hs vw (8 * (r - 32)) (di, df) j).1), ((cmL tr hs vw (8 * (r - 32)) (di, df) j).2))).1)) (bI ta) (nI ce) (nI fo) (nI bt)), (a 18, gI g 768 ((tlD 0 (8 * (r - 32) + j) (((cmL tr hs vw (8 * (r - 32)) (di, df) j).1), ((cmL tr hs vw (8 * (r - 32)) (di, df) j).2))).2))]) C (c_X5_tell l g a th wk ro lo ne ((cmL tr hs vw (8 * (r - 32)) (di, df) j).1) ta ce fo bt ((cmL tr hs vw (8 * (r - 32)) (di, df) j).2) 0 (8 * (r - 32) + j) (by omega) (by omega)) (cwV 2 C.2.2.2.2.1 gX5_compare_X5_tell rfl rfl rfl (by decide +kernel) ⟨Nat.le_of_ble_eq_true rfl, Nat.le_of_ble_eq_true rfl⟩) 3 rfl rfl rfl [3, 2] [0, 1, 4] rfl rfl rfl rfl rfl (by decide) rfl rfl (Nat.le_of_ble_eq_true rfl) dX5_compare_67 ⟨Nat.le_of_ble_eq_true rfl, Nat.le_of_ble_eq_true rfl⟩ rfl ?_
            refine g_iload C dX5_compare_70 0 rfl ?_
            refine g_if_eq_b (tgt := 85) C dX5_compare_72 (by decide) (fun c72 => ?_) (fun c72 => ?_)
            · skip
              refine g_iload_n C dX5_compare_85 rfl 1 rfl ?_
              refine g_if_eq_b (tgt := 120) C dX5_compare_86 (by decide) (fun c86 => ?_) (fun c86 => ?_)
              · skip
                exact absurd (c56.symm.trans c86) (by decide)
              · skip
                refine g_iload C dX5_compare_89 0 rfl ?_
                refine g_if_eq_b (tgt := 120) C dX5_compare_91 (by decide) (fun c91 => ?_) (fun c91 => ?_)
                · skip
                  rw [show cmL tr hs vw (8 * (r - 32)) (di, df) (j + 1) = _ from cmS_0 c30 c56 c61] at ihj
                  refine g_iinc_n (d := 1) (L' := [(2, .int (nI ((8 * (r - 32) + j) + 1))), (4, .int (bI (tr (256 + (8 * (r - 32) + j))))), (3, .int (bI (tr (8 * (r - 32) + j)))), (0, .ref (a 0)), (1, .int (nI r))]) C dX5_compare_120 4 rfl (by decide) (by decide) rfl ?_
                  refine g_goto (tgt := 8) C dX5_compare_123 (by decide) ?_
                  refine g_L (L2 := [(0, .ref (a 0)), (1, .int (nI r)), (2, .int (nI ((8 * (r - 32) + j) + 1)))]) [3, 4, 0] rfl ?_
                  refine g_perm (w2 := [(a 0, oM a th (bI wk) ro (nI lo) (nI ne) (nI ((tlD 0 (8 * (r - 32) + j) (((cmL tr hs vw (8 * (r - 32)) (di, df) j).1), ((cmL tr hs vw (8 * (r - 32)) (di, df) j).2))).1)) (bI ta) (nI ce) (nI fo) (nI bt)), (a 2, gZ g 8 hs), (a 3, gZ g 512 tr), (a 4, gJ g 512 vw), (a 18, gI g 768 ((tlD 0 (8 * (r - 32) + j) (((cmL tr hs vw (8 * (r - 32)) (di, df) j).1), ((cmL tr hs vw (8 * (r - 32)) (di, df) j).2))).2))]) [3, 2, 0, 1, 4] rfl rfl rfl ?_
                  exact ihj (trivial)
                · skip
                  exact absurd (c61.symm.trans c91) (by decide)
            · skip
              exact absurd (c61.symm.trans c72) (by decide)
      · skip
        refine g_goto (tgt := 120) C dX5_compare_33 (by decide) ?_
        rw [show cmL tr hs vw (8 * (r - 32)) (di, df) (j + 1) = _ from cmS_q c30] at ihj
        refine g_iinc_n (d := 1) (L' := [(2, .int (nI ((8 * (r - 32) + j) + 1))), (0, .ref (a 0)), (1, .int (nI r))]) C dX5_compare_120 2 rfl (by decide) (by decide) rfl ?_
        refine g_goto (tgt := 8) C dX5_compare_123 (by decide) ?_
        refine g_L (L2 := [(0, .ref (a 0)), (1, .int (nI r)), (2, .int (nI ((8 * (r - 32) + j) + 1)))]) [1, 2, 0] rfl ?_
        refine g_perm (w2 := [(a 0, oM a th (bI wk) ro (nI lo) (nI ne) (nI ((cmL tr hs vw (8 * (r - 32)) (di, df) j).1)) (bI ta) (nI ce) (nI fo) (nI bt)), (a 2, gZ g 8 hs), (a 3, gZ g 512 tr), (a 4, gJ g 512 vw), (a 18, gI g 768 ((cmL tr hs vw (8 * (r - 32)) (di, df) j).2))]) [3, 4, 0, 1, 2] rfl rfl rfl ?_
        exact ihj (trivial)
set_option maxHeartbeats 4000000 in
set_option maxRecDepth 100000 in
theorem c_X5_rounds (l : Launch) (g : gE) (a : Nat → Nat) (th : Int32) (wk : Bool) (ro : Int32) (lo ne di : Nat) (ta : Bool) (ce fo bt : Nat) : Kt l g yX5_rounds wsX5_rounds 0 0 0 0 [.ref (a 0)] [(a 0, oM a th (bI wk) ro (nI lo) (nI ne) (nI di) (bI ta) (nI ce) (nI fo) (nI bt))] (kR (some (.int (cond wk ro (-1)))) [(a 0, oM a (nI 0) (bI wk) ro (nI lo) (nI ne) (nI di) (bI ta) (nI ce) (nI fo) (nI bt))]) := by
  have hinX5 : ∀ w ∈ wsX50, w ∈ wsX5_rounds := by
    intro w h
    unfold wsX5_rounds
    simp only [List.mem_cons, List.mem_append]
    simp only [h, or_true, true_or]
  refine g_enter (cc := cX5_rounds) (maxL := 1) (ret := (some .int)) (own := RX5) (L := [(0, .ref (a 0))]) (by decide) rfl rfl (Nat.le_of_ble_eq_true rfl) rfl ?_
  intro p e s m args below meth c hin0 C
  refine g_aload_n C dX5_rounds_0 rfl 0 rfl ?_
  refine g_iconst (v := nI 0) C dX5_rounds_1 (by decide) ?_
  refine g_put (ty := .int) (w2 := [(a 0, oM a (nI 0) (bI wk) ro (nI lo) (nI ne) (nI di) (bI ta) (nI ce) (nI fo) (nI bt))]) C hinX5 0 rfl rfl 0 (by decide) (by decide +kernel) rfl tyX5 tyX5_ok nmX5 rfl (by decide +kernel) rfl rfl (Nat.le_of_ble_eq_true rfl) rfl dX5_rounds_2 ?_
  refine g_aload_n C dX5_rounds_5 rfl 0 rfl ?_
  refine g_get C hinX5 0 rfl rfl 10 (by decide) (by decide +kernel) rfl rfl dX5_rounds_6 ?_
  refine g_if_eq_b (tgt := 19) C dX5_rounds_9 (by decide) (fun c9 => ?_) (fun c9 => ?_)
  · skip
    refine g_iconst (v := (-1)) C dX5_rounds_19 (by decide) ?_
    refine g_iret C dX5_rounds_20 (by decide) (by decide) ?_
    refine ⟨congrArg (fun b => some (Value.int b)) ?_, rfl⟩
    rw [c9]
    rfl
  · skip
    refine g_aload_n C dX5_rounds_12 rfl 0 rfl ?_
    refine g_get C hinX5 0 rfl rfl 11 (by decide) (by decide +kernel) rfl rfl dX5_rounds_13 ?_
    refine g_goto (tgt := 20) C dX5_rounds_16 (by decide) ?_
    refine g_iret C dX5_rounds_20 (by decide) (by decide) ?_
    refine ⟨congrArg (fun b => some (Value.int b)) ?_, rfl⟩
    rw [c9]
    rfl
set_option maxHeartbeats 4000000 in
set_option maxRecDepth 100000 in
theorem c_X5_differ (l : Launch) (g : gE) (a : Nat → Nat) (th : Int32) (wk : Bool) (ro : Int32) (lo ne di : Nat) (ta : Bool) (ce fo bt : Nat) (df : Nat → Int32) (x y : Int32) (hd : di ≤ 256) : Kt l g yX5_differ wsX5_differ 1 22 0 0 [.ref (a 0), .int x, .int y] [(a 0, oM a th (bI wk) ro (nI lo) (nI ne) (nI di) (bI ta) (nI ce) (nI fo) (nI bt)), (a 18, gI g 768 df)] (kR (some (.int (difV wk di df x y))) [(a 0, oM a (nI 0) (bI wk) ro (nI lo) (nI ne) (nI di) (bI ta) (nI ce) (nI fo) (nI bt)), (a 18, gI g 768 df)]) := by
  have hinX5 : ∀ w ∈ wsX50, w ∈ wsX5_differ := by
    intro w h
    unfold wsX5_differ
    simp only [List.mem_cons, List.mem_append]
    simp only [h, or_true, true_or]
  refine g_enter (cc := cX5_differ) (maxL := 3) (ret := (some .int)) (own := RX5) (L := [(0, .ref (a 0)), (1, .int x), (2, .int y)]) (by decide) rfl rfl (Nat.le_of_ble_eq_true rfl) rfl ?_
  intro p e s m args below meth c hin0 C
  refine g_aload_n C dX5_differ_0 rfl 0 rfl ?_
  refine g_iconst (v := nI 0) C dX5_differ_1 (by decide) ?_
  refine g_put (ty := .int) (w2 := [(a 0, oM a (nI 0) (bI wk) ro (nI lo) (nI ne) (nI di) (bI ta) (nI ce) (nI fo) (nI bt)), (a 18, gI g 768 df)]) C hinX5 0 rfl rfl 0 (by decide) (by decide +kernel) rfl tyX5 tyX5_ok nmX5 rfl (by decide +kernel) rfl rfl (Nat.le_of_ble_eq_true rfl) rfl dX5_differ_2 ?_
  refine g_aload_n C dX5_differ_5 rfl 0 rfl ?_
  refine g_get C hinX5 0 rfl rfl 10 (by decide) (by decide +kernel) rfl rfl dX5_differ_6 ?_
  refine g_if_eq_b (tgt := 35) C dX5_differ_9 (by decide) (fun c9 => ?_) (fun c9 => ?_)
  · skip
    refine g_iconst (v := (-1)) C dX5_differ_35 (by decide) ?_
    refine g_goto (tgt := 49) C dX5_differ_36 (by decide) ?_
    refine g_iret C dX5_differ_49 (by decide) (by decide) ?_
    refine ⟨congrArg (fun b => some (Value.int b)) ?_, rfl⟩
    unfold difV
    first | (rw [c9, c23, c32]; rfl) | (rw [c9, c23]; rfl) | (rw [c9]; rfl)
  · skip
    refine g_iload_n C dX5_differ_12 rfl 1 rfl ?_
    refine g_iconst (v := nI 0) C dX5_differ_13 (by decide) ?_
    refine g_aload_n C dX5_differ_14 rfl 0 rfl ?_
    refine g_get C hinX5 0 rfl rfl 16 (by decide) (by decide +kernel) rfl rfl dX5_differ_15 ?_
    refine g_iconst (v := nI 1) C dX5_differ_18 (by decide) ?_
    refine g_isub C dX5_differ_19 ?_
    refine g_callS1 (wr := [(a 0, oM a (nI 0) (bI wk) ro (nI lo) (nI ne) (nI di) (bI ta) (nI ce) (nI fo) (nI bt)), (a 18, gI g 768 df)]) (w2 := [(a 0, oM a (nI 0) (bI wk) ro (nI lo) (nI ne) (nI di) (bI ta) (nI ce) (nI fo) (nI bt)), (a 18, gI g 768 df)]) C (c_X5_within l g x (nI 0) ((nI di) - (nI 1))) (va_cwS 3 C.2.2.2.2.1 gX5_differ_X5_within rfl rfl rfl (by decide +kernel) ⟨Nat.le_of_ble_eq_true rfl, Nat.le_of_ble_eq_true rfl⟩) [] [0, 1] rfl rfl rfl rfl rfl (by decide) rfl rfl (Nat.le_of_ble_eq_true rfl) dX5_differ_20 ⟨Nat.le_of_ble_eq_true rfl, Nat.le_of_ble_eq_true rfl⟩ rfl ?_
    refine g_if_eq_b (tgt := 35) C dX5_differ_23 (by decide) (fun c23 => ?_) (fun c23 => ?_)
    · skip
      refine g_iconst (v := (-1)) C dX5_differ_35 (by decide) ?_
      refine g_goto (tgt := 49) C dX5_differ_36 (by decide) ?_
      refine g_iret C dX5_differ_49 (by decide) (by decide) ?_
      refine ⟨congrArg (fun b => some (Value.int b)) ?_, rfl⟩
      unfold difV
      first | (rw [c9, c23, c32]; rfl) | (rw [c9, c23]; rfl) | (rw [c9]; rfl)
    · skip
      refine g_iload_n C dX5_differ_26 rfl 2 rfl ?_
      refine g_iconst (v := nI 0) C dX5_differ_27 (by decide) ?_
      refine g_iconst (v := nI 2) C dX5_differ_28 (by decide) ?_
      refine g_callS1 (wr := [(a 0, oM a (nI 0) (bI wk) ro (nI lo) (nI ne) (nI di) (bI ta) (nI ce) (nI fo) (nI bt)), (a 18, gI g 768 df)]) (w2 := [(a 0, oM a (nI 0) (bI wk) ro (nI lo) (nI ne) (nI di) (bI ta) (nI ce) (nI fo) (nI bt)), (a 18, gI g 768 df)]) C (c_X5_within l g y (nI 0) (nI 2)) (va_cwS 3 C.2.2.2.2.1 gX5_differ_X5_within rfl rfl rfl (by decide +kernel) ⟨Nat.le_of_ble_eq_true rfl, Nat.le_of_ble_eq_true rfl⟩) [] [0, 1] rfl rfl rfl rfl rfl (by decide) rfl rfl (Nat.le_of_ble_eq_true rfl) dX5_differ_29 ⟨Nat.le_of_ble_eq_true rfl, Nat.le_of_ble_eq_true rfl⟩ rfl ?_
      refine g_if_ne_b (tgt := 39) C dX5_differ_32 (by decide) (fun c32 => ?_) (fun c32 => ?_)
      · skip
        obtain ⟨kx, hx1, rfl⟩ := wiN_ix (by omega) c23
        obtain ⟨k9, -, hy1, rfl⟩ := wiN_of (by decide) (by decide) c32
        refine g_aload_n C dX5_differ_39 rfl 0 rfl ?_
        refine g_get C hinX5 0 rfl rfl 17 (by decide) (by decide +kernel) rfl rfl dX5_differ_40 ?_
        refine g_iconst (v := nI 3) C dX5_differ_43 (by decide) ?_
        refine g_iload_n C dX5_differ_44 rfl 1 rfl ?_
        refine g_imul_n C dX5_differ_45 ?_
        refine g_iload_n C dX5_differ_46 rfl 2 rfl ?_
        refine g_iadd_n C dX5_differ_47 ?_
        refine g_iald C 1 rfl (by omega) (by decide) dX5_differ_48 ?_
        refine g_iret C dX5_differ_49 (by decide) (by decide) ?_
        refine ⟨congrArg (fun b => some (Value.int b)) ?_, rfl⟩
        unfold difV
        rw [c9, c23, c32, nI_clamp (by omega), nI_clamp (by omega)]
        rfl
      · skip
        refine g_iconst (v := (-1)) C dX5_differ_35 (by decide) ?_
        refine g_goto (tgt := 49) C dX5_differ_36 (by decide) ?_
        refine g_iret C dX5_differ_49 (by decide) (by decide) ?_
        refine ⟨congrArg (fun b => some (Value.int b)) ?_, rfl⟩
        unfold difV
        first | (rw [c9, c23, c32]; rfl) | (rw [c9, c23]; rfl) | (rw [c9]; rfl)
set_option maxHeartbeats 4000000 in
set_option maxRecDepth 100000 in
theorem c_X5_equal (l : Launch) (g : gE) (a : Nat → Nat) (th : Int32) (wk : Bool) (ro : Int32) (lo ne di : Nat) (ta : Bool) (ce fo bt : Nat) (hs : Nat → Bool) (kw : Nat → Bool) (kv : Nat → Int64) (fr : Nat → Bool) (dg : Nat → Int32) (sm : Nat → Int32) (rd : Nat → Int32) (tx : Nat → Int32) (wo : Nat → Int32) (ch : Nat → Int32) (wr : Nat → Int32) : Kt l g yX5_equal wsX5_equal 7 167 0 0 [.ref (a 0)] [(a 0, oM a th (bI wk) ro (nI lo) (nI ne) (nI di) (bI ta) (nI ce) (nI fo) (nI bt)), (a 2, gZ g 8 hs), (a 5, gZ g 512 kw), (a 6, gJ g 512 kv), (a 7, gZ g 2 fr), (a 8, gI g 4096 dg), (a 9, gI g 128 sm), (a 10, gI g 64 rd), (a 30, gI g 128 tx), (a 31, gI g 64 wo), (a 32, gI g 8 ch), (a 33, gI g 8 wr)] (kR (some (.int (bI (eqN 32 (rf2 kw hs kv rd (fr, (dg, sm, (bt, tx), (ch, wo, wr)))).2.1 (rf2 kw hs kv rd (fr, (dg, sm, (bt, tx), (ch, wo, wr)))).2.1 (32 * 1) (32 * (64 + 1)))))) [(a 0, oM a (nI 0) (bI wk) ro (nI lo) (nI ne) (nI di) (bI ta) (nI ce) (nI fo) (nI ((rf2 kw hs kv rd (fr, (dg, sm, (bt, tx), (ch, wo, wr)))).2.2.2.1.1))), (a 2, gZ g 8 hs), (a 5, gZ g 512 kw), (a 6, gJ g 512 kv), (a 7, gZ g 2 ((rf2 kw hs kv rd (fr, (dg, sm, (bt, tx), (ch, wo, wr)))).1)), (a 8, gI g 4096 ((rf2 kw hs kv rd (fr, (dg, sm, (bt, tx), (ch, wo, wr)))).2.1)), (a 9, gI g 128 ((rf2 kw hs kv rd (fr, (dg, sm, (bt, tx), (ch, wo, wr)))).2.2.1)), (a 10, gI g 64 rd), (a 30, gI g 128 ((rf2 kw hs kv rd (fr, (dg, sm, (bt, tx), (ch, wo, wr)))).2.2.2.1.2)), (a 31, gI g 64 ((rf2 kw hs kv rd (fr, (dg, sm, (bt, tx), (ch, wo, wr)))).2.2.2.2.2.1)), (a 32, gI g 8 ((rf2 kw hs kv rd (fr, (dg, sm, (bt, tx), (ch, wo, wr)))).2.2.2.2.1)), (a 33, gI g 8 ((rf2 kw hs kv rd (fr, (dg, sm, (bt, tx), (ch, wo, wr)))).2.2.2.2.2.2))]) := by
  have hinX5 : ∀ w ∈ wsX50, w ∈ wsX5_equal := by
    intro w h
    unfold wsX5_equal
    simp only [List.mem_cons, List.mem_append]
    simp only [h, or_true, true_or]
  refine g_enter (cc := cX5_equal) (maxL := 1) (ret := (some .boolean)) (own := RX5) (L := [(0, .ref (a 0))]) (by decide) rfl rfl (Nat.le_of_ble_eq_true rfl) rfl ?_
  intro p e s m args below meth c hin0 C
  refine g_aload_n C dX5_equal_0 rfl 0 rfl ?_
  refine g_iconst (v := nI 0) C dX5_equal_1 (by decide) ?_
  refine g_put (ty := .int) (w2 := [(a 0, oM a (nI 0) (bI wk) ro (nI lo) (nI ne) (nI di) (bI ta) (nI ce) (nI fo) (nI bt)), (a 2, gZ g 8 hs), (a 5, gZ g 512 kw), (a 6, gJ g 512 kv), (a 7, gZ g 2 fr), (a 8, gI g 4096 dg), (a 9, gI g 128 sm), (a 10, gI g 64 rd), (a 30, gI g 128 tx), (a 31, gI g 64 wo), (a 32, gI g 8 ch), (a 33, gI g 8 wr)]) C hinX5 0 rfl rfl 0 (by decide) (by decide +kernel) rfl tyX5 tyX5_ok nmX5 rfl (by decide +kernel) rfl rfl (Nat.le_of_ble_eq_true rfl) rfl dX5_equal_2 ?_
  refine g_aload_n C dX5_equal_5 rfl 0 rfl ?_
  refine g_iconst (v := nI 1) C dX5_equal_6 (by decide) ?_
  refine g_callV1 (wr := []) (w2 := [(a 0, oM a (nI 0) (bI wk) ro (nI lo) (nI ne) (nI di) (bI ta) (nI ce) (nI fo) (nI ((rf2 kw hs kv rd (fr, (dg, sm, (bt, tx), (ch, wo, wr)))).2.2.2.1.1))), (a 2, gZ g 8 hs), (a 5, gZ g 512 kw), (a 6, gJ g 512 kv), (a 7, gZ g 2 ((rf2 kw hs kv rd (fr, (dg, sm, (bt, tx), (ch, wo, wr)))).1)), (a 8, gI g 4096 ((rf2 kw hs kv rd (fr, (dg, sm, (bt, tx), (ch, wo, wr)))).2.1)), (a 9, gI g 128 ((rf2 kw hs kv rd (fr, (dg, sm, (bt, tx), (ch, wo, wr)))).2.2.1)), (a 10, gI g 64 rd), (a 30, gI g 128 ((rf2 kw hs kv rd (fr, (dg, sm, (bt, tx), (ch, wo, wr)))).2.2.2.1.2)), (a 31, gI g 64 ((rf2 kw hs kv rd (fr, (dg, sm, (bt, tx), (ch, wo, wr)))).2.2.2.2.2.1)), (a 32, gI g 8 ((rf2 kw hs kv rd (fr, (dg, sm, (bt, tx), (ch, wo, wr)))).2.2.2.2.1)), (a 33, gI g 8 ((rf2 kw hs kv rd (fr, (dg, sm, (bt, tx), (ch, wo, wr)))).2.2.2.2.2.2))]) C (c_X5_isAlike l g a (nI 0) wk ro lo ne di ta ce fo bt hs kw kv fr dg sm rd tx wo ch wr 1 (by omega)) (cwV 1 C.2.2.2.2.1 gX5_equal_X5_isAlike rfl rfl rfl (by decide +kernel) ⟨Nat.le_of_ble_eq_true rfl, Nat.le_of_ble_eq_true rfl⟩) 0 rfl rfl rfl [0, 1, 2, 3, 4, 5, 6, 7, 8, 9, 10, 11] [] rfl rfl rfl rfl rfl (by decide) rfl rfl (Nat.le_of_ble_eq_true rfl) dX5_equal_7 ⟨Nat.le_of_ble_eq_true rfl, Nat.le_of_ble_eq_true rfl⟩ rfl ?_
  refine g_zret C dX5_equal_10 (by decide) (by decide) ?_
  exact ⟨rfl, rfl⟩
set_option maxHeartbeats 4000000 in
set_option maxRecDepth 100000 in
theorem c_X5_isRange (l : Launch) (g : gE) (x y : Int32) : Kt l g yX5_isRange wsX5_isRange 1 22 0 0 [.int x, .int y] [] (kR (some (.int (bI (wiN x (nI 0) (nI 1) && wiN y (nI 1) (nI 63))))) []) := by
  refine g_enter (cc := cX5_isRange) (maxL := 2) (ret := (some .boolean)) (own := RX5) (L := [(0, .int x), (1, .int y)]) (by decide) rfl rfl (Nat.le_of_ble_eq_true rfl) rfl ?_
  intro p e s m args below meth c hin0 C
  refine g_iload_n C dX5_isRange_0 rfl 0 rfl ?_
  refine g_iconst (v := nI 0) C dX5_isRange_1 (by decide) ?_
  refine g_iconst (v := nI 1) C dX5_isRange_2 (by decide) ?_
  refine g_callS1 (wr := []) (w2 := []) C (c_X5_within l g x (nI 0) (nI 1)) (va_cwS 3 C.2.2.2.2.1 gX5_isRange_X5_within rfl rfl rfl (by decide +kernel) ⟨Nat.le_of_ble_eq_true rfl, Nat.le_of_ble_eq_true rfl⟩) [] [] rfl rfl rfl rfl rfl (by decide) rfl rfl (Nat.le_of_ble_eq_true rfl) dX5_isRange_3 ⟨Nat.le_of_ble_eq_true rfl, Nat.le_of_ble_eq_true rfl⟩ rfl ?_
  refine g_if_eq_b (tgt := 23) C dX5_isRange_6 (by decide) (fun c6 => ?_) (fun c6 => ?_)
  · skip
    refine g_iconst (v := nI 0) C dX5_isRange_23 (by decide) ?_
    refine g_st (st2 := [.int (bI false)]) rfl ?_
    refine g_zret C dX5_isRange_24 (by decide) (by decide) ?_
    refine ⟨congrArg (fun b => some (Value.int (bI b))) ?_, rfl⟩
    first | (simp [Bool.and_true, c6, c16]; done) | (simp [Bool.and_true, c6]; done)
  · skip
    refine g_iload_n C dX5_isRange_9 rfl 1 rfl ?_
    refine g_iconst (v := nI 1) C dX5_isRange_10 (by decide) ?_
    refine g_bipush (v := nI 63) C dX5_isRange_11 (by decide) ?_
    refine g_callS1 (wr := []) (w2 := []) C (c_X5_within l g y (nI 1) (nI 63)) (va_cwS 3 C.2.2.2.2.1 gX5_isRange_X5_within rfl rfl rfl (by decide +kernel) ⟨Nat.le_of_ble_eq_true rfl, Nat.le_of_ble_eq_true rfl⟩) [] [] rfl rfl rfl rfl rfl (by decide) rfl rfl (Nat.le_of_ble_eq_true rfl) dX5_isRange_13 ⟨Nat.le_of_ble_eq_true rfl, Nat.le_of_ble_eq_true rfl⟩ rfl ?_
    refine g_if_eq_b (tgt := 23) C dX5_isRange_16 (by decide) (fun c16 => ?_) (fun c16 => ?_)
    · skip
      refine g_iconst (v := nI 0) C dX5_isRange_23 (by decide) ?_
      refine g_st (st2 := [.int (bI false)]) rfl ?_
      refine g_zret C dX5_isRange_24 (by decide) (by decide) ?_
      refine ⟨congrArg (fun b => some (Value.int (bI b))) ?_, rfl⟩
      first | (simp [Bool.and_true, c6, c16]; done) | (simp [Bool.and_true, c6]; done)
    · skip
      refine g_iconst (v := nI 1) C dX5_isRange_19 (by decide) ?_
      refine g_goto (tgt := 24) C dX5_isRange_20 (by decide) ?_
      refine g_st (st2 := [.int (bI true)]) rfl ?_
      refine g_zret C dX5_isRange_24 (by decide) (by decide) ?_
      refine ⟨congrArg (fun b => some (Value.int (bI b))) ?_, rfl⟩
      first | (simp [Bool.and_true, c6, c16]; done) | (simp [Bool.and_true, c6]; done)
set_option maxHeartbeats 4000000 in
set_option maxRecDepth 100000 in
theorem c_X5_digest (l : Launch) (g : gE) (a : Nat → Nat) (th : Int32) (wk : Bool) (ro : Int32) (lo ne di : Nat) (ta : Bool) (ce fo bt : Nat) (hs : Nat → Bool) (kw : Nat → Bool) (kv : Nat → Int64) (fr : Nat → Bool) (dg : Nat → Int32) (sm : Nat → Int32) (rd : Nat → Int32) (tx : Nat → Int32) (wo : Nat → Int32) (ch : Nat → Int32) (wr : Nat → Int32) (sd r i : Nat) (hs1 : sd < 2) (h1 : 1 ≤ r) (h2 : r < 64) (hi : i < 32) : Kt l g yX5_digest wsX5_digest 6 145 0 0 [.ref (a 0), .int (nI sd), .int (nI r), .int (nI i)] [(a 0, oM a th (bI wk) ro (nI lo) (nI ne) (nI di) (bI ta) (nI ce) (nI fo) (nI bt)), (a 2, gZ g 8 hs), (a 5, gZ g 512 kw), (a 6, gJ g 512 kv), (a 7, gZ g 2 fr), (a 8, gI g 4096 dg), (a 9, gI g 128 sm), (a 10, gI g 64 rd), (a 30, gI g 128 tx), (a 31, gI g 64 wo), (a 32, gI g 8 ch), (a 33, gI g 8 wr)] (kR (some (.int ((rfR kw hs kv rd sd (fr, (dg, sm, (bt, tx), (ch, wo, wr)))).2.1 (32 * (64 * sd + r) + i)))) [(a 0, oM a (nI 0) (bI wk) ro (nI lo) (nI ne) (nI di) (bI ta) (nI ce) (nI fo) (nI ((rfR kw hs kv rd sd (fr, (dg, sm, (bt, tx), (ch, wo, wr)))).2.2.2.1.1))), (a 2, gZ g 8 hs), (a 5, gZ g 512 kw), (a 6, gJ g 512 kv), (a 7, gZ g 2 ((rfR kw hs kv rd sd (fr, (dg, sm, (bt, tx), (ch, wo, wr)))).1)), (a 8, gI g 4096 ((rfR kw hs kv rd sd (fr, (dg, sm, (bt, tx), (ch, wo, wr)))).2.1)), (a 9, gI g 128 ((rfR kw hs kv rd sd (fr, (dg, sm, (bt, tx), (ch, wo, wr)))).2.2.1)), (a 10, gI g 64 rd), (a 30, gI g 128 ((rfR kw hs kv rd sd (fr, (dg, sm, (bt, tx), (ch, wo, wr)))).2.2.2.1.2)), (a 31, gI g 64 ((rfR kw hs kv rd sd (fr, (dg, sm, (bt, tx), (ch, wo, wr)))).2.2.2.2.2.1)), (a 32, gI g 8 ((rfR kw hs kv rd sd (fr, (dg, sm, (bt, tx), (ch, wo, wr)))).2.2.2.2.1)), (a 33, gI g 8 ((rfR kw hs kv rd sd (fr, (dg, sm, (bt, tx), (ch, wo, wr)))).2.2.2.2.2.2))]) := by
  have hinX5 : ∀ w ∈ wsX50, w ∈ wsX5_digest := by
    intro w h
    unfold wsX5_digest
    simp only [List.mem_cons, List.mem_append]
    simp only [h, or_true, true_or]
  refine g_enter (cc := cX5_digest) (maxL := 4) (ret := (some .int)) (own := RX5) (L := [(0, .ref (a 0)), (1, .int (nI sd)), (2, .int (nI r)), (3, .int (nI i))]) (by decide) rfl rfl (Nat.le_of_ble_eq_true rfl) rfl ?_
  intro p e s m args below meth c hin0 C
  refine g_iload_n C dX5_digest_0 rfl 1 rfl ?_
  refine g_iload_n C dX5_digest_1 rfl 2 rfl ?_
  refine g_callS1 (wr := [(a 0, oM a th (bI wk) ro (nI lo) (nI ne) (nI di) (bI ta) (nI ce) (nI fo) (nI bt)), (a 2, gZ g 8 hs), (a 5, gZ g 512 kw), (a 6, gJ g 512 kv), (a 7, gZ g 2 fr), (a 8, gI g 4096 dg), (a 9, gI g 128 sm), (a 10, gI g 64 rd), (a 30, gI g 128 tx), (a 31, gI g 64 wo), (a 32, gI g 8 ch), (a 33, gI g 8 wr)]) (w2 := [(a 0, oM a th (bI wk) ro (nI lo) (nI ne) (nI di) (bI ta) (nI ce) (nI fo) (nI bt)), (a 2, gZ g 8 hs), (a 5, gZ g 512 kw), (a 6, gJ g 512 kv), (a 7, gZ g 2 fr), (a 8, gI g 4096 dg), (a 9, gI g 128 sm), (a 10, gI g 64 rd), (a 30, gI g 128 tx), (a 31, gI g 64 wo), (a 32, gI g 8 ch), (a 33, gI g 8 wr)]) C (c_X5_isRange l g (nI sd) (nI r)) (va_cwS 2 C.2.2.2.2.1 gX5_digest_X5_isRange rfl rfl rfl (by decide +kernel) ⟨Nat.le_of_ble_eq_true rfl, Nat.le_of_ble_eq_true rfl⟩) [] [0, 1, 2, 3, 4, 5, 6, 7, 8, 9, 10, 11] rfl rfl rfl rfl rfl (by decide) rfl rfl (Nat.le_of_ble_eq_true rfl) dX5_digest_2 ⟨Nat.le_of_ble_eq_true rfl, Nat.le_of_ble_eq_true rfl⟩ rfl ?_
  refine g_if_eq_b (tgt := 18) C dX5_digest_5 (by decide) (fun c5 => ?_) (fun c5 => ?_)
  · skip
    exact absurd (c5.symm.trans (show (wiN (nI sd) (nI 0) (nI 1) && wiN (nI r) (nI 1) (nI 63)) = true by rw [wiN_n (by omega) (by omega) (by decide), wiN_n (by omega) (by omega) (by decide)]; rfl)) (by decide)
  · skip
    refine g_iload_n C dX5_digest_8 rfl 3 rfl ?_
    refine g_iconst (v := nI 0) C dX5_digest_9 (by decide) ?_
    refine g_bipush (v := nI 31) C dX5_digest_10 (by decide) ?_
    refine g_callS1 (wr := [(a 0, oM a th (bI wk) ro (nI lo) (nI ne) (nI di) (bI ta) (nI ce) (nI fo) (nI bt)), (a 2, gZ g 8 hs), (a 5, gZ g 512 kw), (a 6, gJ g 512 kv), (a 7, gZ g 2 fr), (a 8, gI g 4096 dg), (a 9, gI g 128 sm), (a 10, gI g 64 rd), (a 30, gI g 128 tx), (a 31, gI g 64 wo), (a 32, gI g 8 ch), (a 33, gI g 8 wr)]) (w2 := [(a 0, oM a th (bI wk) ro (nI lo) (nI ne) (nI di) (bI ta) (nI ce) (nI fo) (nI bt)), (a 2, gZ g 8 hs), (a 5, gZ g 512 kw), (a 6, gJ g 512 kv), (a 7, gZ g 2 fr), (a 8, gI g 4096 dg), (a 9, gI g 128 sm), (a 10, gI g 64 rd), (a 30, gI g 128 tx), (a 31, gI g 64 wo), (a 32, gI g 8 ch), (a 33, gI g 8 wr)]) C (c_X5_within l g (nI i) (nI 0) (nI 31)) (va_cwS 3 C.2.2.2.2.1 gX5_digest_X5_within rfl rfl rfl (by decide +kernel) ⟨Nat.le_of_ble_eq_true rfl, Nat.le_of_ble_eq_true rfl⟩) [] [0, 1, 2, 3, 4, 5, 6, 7, 8, 9, 10, 11] rfl rfl rfl rfl rfl (by decide) rfl rfl (Nat.le_of_ble_eq_true rfl) dX5_digest_12 ⟨Nat.le_of_ble_eq_true rfl, Nat.le_of_ble_eq_true rfl⟩ rfl ?_
    refine g_if_ne_b (tgt := 23) C dX5_digest_15 (by decide) (fun c15 => ?_) (fun c15 => ?_)
    · skip
      refine g_aload_n C dX5_digest_23 rfl 0 rfl ?_
      refine g_iconst (v := nI 0) C dX5_digest_24 (by decide) ?_
      refine g_put (ty := .int) (w2 := [(a 0, oM a (nI 0) (bI wk) ro (nI lo) (nI ne) (nI di) (bI ta) (nI ce) (nI fo) (nI bt)), (a 2, gZ g 8 hs), (a 5, gZ g 512 kw), (a 6, gJ g 512 kv), (a 7, gZ g 2 fr), (a 8, gI g 4096 dg), (a 9, gI g 128 sm), (a 10, gI g 64 rd), (a 30, gI g 128 tx), (a 31, gI g 64 wo), (a 32, gI g 8 ch), (a 33, gI g 8 wr)]) C hinX5 0 rfl rfl 0 (by decide) (by decide +kernel) rfl tyX5 tyX5_ok nmX5 rfl (by decide +kernel) rfl rfl (Nat.le_of_ble_eq_true rfl) rfl dX5_digest_25 ?_
      refine g_aload_n C dX5_digest_28 rfl 0 rfl ?_
      refine g_iload_n C dX5_digest_29 rfl 1 rfl ?_
      refine g_callV0 (wr := []) (w2 := [(a 0, oM a (nI 0) (bI wk) ro (nI lo) (nI ne) (nI di) (bI ta) (nI ce) (nI fo) (nI ((rfR kw hs kv rd sd (fr, (dg, sm, (bt, tx), (ch, wo, wr)))).2.2.2.1.1))), (a 2, gZ g 8 hs), (a 5, gZ g 512 kw), (a 6, gJ g 512 kv), (a 7, gZ g 2 ((rfR kw hs kv rd sd (fr, (dg, sm, (bt, tx), (ch, wo, wr)))).1)), (a 8, gI g 4096 ((rfR kw hs kv rd sd (fr, (dg, sm, (bt, tx), (ch, wo, wr)))).2.1)), (a 9, gI g 128 ((rfR kw hs kv rd sd (fr, (dg, sm, (bt, tx), (ch, wo, wr)))).2.2.1)), (a 10, gI g 64 rd), (a 30, gI g 128 ((rfR kw hs kv rd sd (fr, (dg, sm, (bt, tx), (ch, wo, wr)))).2.2.2.1.2)), (a 31, gI g 64 ((rfR kw hs kv rd sd (fr, (dg, sm, (bt, tx), (ch, wo, wr)))).2.2.2.2.2.1)), (a 32, gI g 8 ((rfR kw hs kv rd sd (fr, (dg, sm, (bt, tx), (ch, wo, wr)))).2.2.2.2.1)), (a 33, gI g 8 ((rfR kw hs kv rd sd (fr, (dg, sm, (bt, tx), (ch, wo, wr)))).2.2.2.2.2.2))]) C (c_X5_refresh l g a (nI 0) wk ro lo ne di ta ce fo bt hs kw kv fr dg sm rd tx wo ch wr sd (by omega)) (cwV 1 C.2.2.2.2.1 gX5_digest_X5_refresh rfl rfl rfl (by decide +kernel) ⟨Nat.le_of_ble_eq_true rfl, Nat.le_of_ble_eq_true rfl⟩) 0 rfl rfl rfl [0, 1, 2, 3, 4, 5, 6, 7, 8, 9, 10, 11] [] rfl rfl rfl rfl rfl (by decide) rfl rfl (Nat.le_of_ble_eq_true rfl) dX5_digest_30 ⟨Nat.le_of_ble_eq_true rfl, Nat.le_of_ble_eq_true rfl⟩ rfl ?_
      refine g_aload_n C dX5_digest_33 rfl 0 rfl ?_
      refine g_get C hinX5 0 rfl rfl 7 (by decide) (by decide +kernel) rfl rfl dX5_digest_34 ?_
      refine g_bipush (v := nI 32) C dX5_digest_37 (by decide) ?_
      refine g_bipush (v := nI 64) C dX5_digest_39 (by decide) ?_
      refine g_iload_n C dX5_digest_41 rfl 1 rfl ?_
      refine g_imul_n C dX5_digest_42 ?_
      refine g_iload_n C dX5_digest_43 rfl 2 rfl ?_
      refine g_iadd_n C dX5_digest_44 ?_
      refine g_imul_n C dX5_digest_45 ?_
      refine g_iload_n C dX5_digest_46 rfl 3 rfl ?_
      refine g_iadd_n C dX5_digest_47 ?_
      refine g_iald C 5 rfl (by omega) (by decide) dX5_digest_48 ?_
      refine g_iret C dX5_digest_49 (by decide) (by decide) ?_
      exact ⟨rfl, rfl⟩
    · skip
      exact absurd (c15.symm.trans (wiN_n (by omega) (by omega) (by decide))) (by decide)
set_option maxHeartbeats 4000000 in
set_option maxRecDepth 100000 in
theorem c_X5_digest_bad (l : Launch) (g : gE) (a : Nat → Nat) (th : Int32) (wk : Bool) (ro : Int32) (lo ne di : Nat) (ta : Bool) (ce fo bt : Nat) (x y z : Int32) (hb : ((wiN x (nI 0) (nI 1) && wiN y (nI 1) (nI 63)) && wiN z (nI 0) (nI 31)) = false) : Kt l g yX5_digest wsX5_digest 2 43 0 0 [.ref (a 0), .int x, .int y, .int z] [(a 0, oM a th (bI wk) ro (nI lo) (nI ne) (nI di) (bI ta) (nI ce) (nI fo) (nI bt))] (kR (some (.int (nI 0))) [(a 0, oM a (nI 1) (bI wk) ro (nI lo) (nI ne) (nI di) (bI ta) (nI ce) (nI fo) (nI bt))]) := by
  refine g_enter (cc := cX5_digest) (maxL := 4) (ret := (some .int)) (own := RX5) (L := [(0, .ref (a 0)), (1, .int x), (2, .int y), (3, .int z)]) (by decide) rfl rfl (Nat.le_of_ble_eq_true rfl) rfl ?_
  intro p e s m args below meth c hin0 C
  refine g_iload_n C dX5_digest_0 rfl 1 rfl ?_
  refine g_iload_n C dX5_digest_1 rfl 2 rfl ?_
  refine g_callS1 (wr := [(a 0, oM a th (bI wk) ro (nI lo) (nI ne) (nI di) (bI ta) (nI ce) (nI fo) (nI bt))]) (w2 := [(a 0, oM a th (bI wk) ro (nI lo) (nI ne) (nI di) (bI ta) (nI ce) (nI fo) (nI bt))]) C (c_X5_isRange l g x y) (va_cwS 2 C.2.2.2.2.1 gX5_digest_X5_isRange rfl rfl rfl (by decide +kernel) ⟨Nat.le_of_ble_eq_true rfl, Nat.le_of_ble_eq_true rfl⟩) [] [0] rfl rfl rfl rfl rfl (by decide) rfl rfl (Nat.le_of_ble_eq_true rfl) dX5_digest_2 ⟨Nat.le_of_ble_eq_true rfl, Nat.le_of_ble_eq_true rfl⟩ rfl ?_
  refine g_if_eq_b (tgt := 18) C dX5_digest_5 (by decide) (fun c5 => ?_) (fun c5 => ?_)
  · skip
    refine g_aload_n C dX5_digest_18 rfl 0 rfl ?_
    refine g_callV1 (wr := []) (w2 := [(a 0, oM a (nI 1) (bI wk) ro (nI lo) (nI ne) (nI di) (bI ta) (nI ce) (nI fo) (nI bt))]) C (c_X5_raise l g a th wk ro lo ne di ta ce fo bt) (cwV 0 C.2.2.2.2.1 gX5_digest_X5_raise rfl rfl rfl (by decide +kernel) ⟨Nat.le_of_ble_eq_true rfl, Nat.le_of_ble_eq_true rfl⟩) 0 rfl rfl rfl [0] [] rfl rfl rfl rfl rfl (by decide) rfl rfl (Nat.le_of_ble_eq_true rfl) dX5_digest_19 ⟨Nat.le_of_ble_eq_true rfl, Nat.le_of_ble_eq_true rfl⟩ rfl ?_
    refine g_iret C dX5_digest_22 (by decide) (by decide) ?_
    exact ⟨rfl, rfl⟩
  · skip
    refine g_iload_n C dX5_digest_8 rfl 3 rfl ?_
    refine g_iconst (v := nI 0) C dX5_digest_9 (by decide) ?_
    refine g_bipush (v := nI 31) C dX5_digest_10 (by decide) ?_
    refine g_callS1 (wr := [(a 0, oM a th (bI wk) ro (nI lo) (nI ne) (nI di) (bI ta) (nI ce) (nI fo) (nI bt))]) (w2 := [(a 0, oM a th (bI wk) ro (nI lo) (nI ne) (nI di) (bI ta) (nI ce) (nI fo) (nI bt))]) C (c_X5_within l g z (nI 0) (nI 31)) (va_cwS 3 C.2.2.2.2.1 gX5_digest_X5_within rfl rfl rfl (by decide +kernel) ⟨Nat.le_of_ble_eq_true rfl, Nat.le_of_ble_eq_true rfl⟩) [] [0] rfl rfl rfl rfl rfl (by decide) rfl rfl (Nat.le_of_ble_eq_true rfl) dX5_digest_12 ⟨Nat.le_of_ble_eq_true rfl, Nat.le_of_ble_eq_true rfl⟩ rfl ?_
    refine g_if_ne_b (tgt := 23) C dX5_digest_15 (by decide) (fun c15 => ?_) (fun c15 => ?_)
    · skip
      rw [c5, c15] at hb; cases hb
    · skip
      refine g_aload_n C dX5_digest_18 rfl 0 rfl ?_
      refine g_callV1 (wr := []) (w2 := [(a 0, oM a (nI 1) (bI wk) ro (nI lo) (nI ne) (nI di) (bI ta) (nI ce) (nI fo) (nI bt))]) C (c_X5_raise l g a th wk ro lo ne di ta ce fo bt) (cwV 0 C.2.2.2.2.1 gX5_digest_X5_raise rfl rfl rfl (by decide +kernel) ⟨Nat.le_of_ble_eq_true rfl, Nat.le_of_ble_eq_true rfl⟩) 0 rfl rfl rfl [0] [] rfl rfl rfl rfl rfl (by decide) rfl rfl (Nat.le_of_ble_eq_true rfl) dX5_digest_19 ⟨Nat.le_of_ble_eq_true rfl, Nat.le_of_ble_eq_true rfl⟩ rfl ?_
      refine g_iret C dX5_digest_22 (by decide) (by decide) ?_
      exact ⟨rfl, rfl⟩
set_option maxHeartbeats 4000000 in
set_option maxRecDepth 100000 in
theorem c_X5_sum (l : Launch) (g : gE) (a : Nat → Nat) (th : Int32) (wk : Bool) (ro : Int32) (lo ne di : Nat) (ta : Bool) (ce fo bt : Nat) (hs : Nat → Bool) (kw : Nat → Bool) (kv : Nat → Int64) (fr : Nat → Bool) (dg : Nat → Int32) (sm : Nat → Int32) (rd : Nat → Int32) (tx : Nat → Int32) (wo : Nat → Int32) (ch : Nat → Int32) (wr : Nat → Int32) (sd r : Nat) (hs1 : sd < 2) (h1 : 1 ≤ r) (h2 : r < 64) : Kt l g yX5_sum wsX5_sum 6 145 0 0 [.ref (a 0), .int (nI sd), .int (nI r)] [(a 0, oM a th (bI wk) ro (nI lo) (nI ne) (nI di) (bI ta) (nI ce) (nI fo) (nI bt)), (a 2, gZ g 8 hs), (a 5, gZ g 512 kw), (a 6, gJ g 512 kv), (a 7, gZ g 2 fr), (a 8, gI g 4096 dg), (a 9, gI g 128 sm), (a 10, gI g 64 rd), (a 30, gI g 128 tx), (a 31, gI g 64 wo), (a 32, gI g 8 ch), (a 33, gI g 8 wr)] (kR (some (.int ((rfR kw hs kv rd sd (fr, (dg, sm, (bt, tx), (ch, wo, wr)))).2.2.1 (64 * sd + r)))) [(a 0, oM a (nI 0) (bI wk) ro (nI lo) (nI ne) (nI di) (bI ta) (nI ce) (nI fo) (nI ((rfR kw hs kv rd sd (fr, (dg, sm, (bt, tx), (ch, wo, wr)))).2.2.2.1.1))), (a 2, gZ g 8 hs), (a 5, gZ g 512 kw), (a 6, gJ g 512 kv), (a 7, gZ g 2 ((rfR kw hs kv rd sd (fr, (dg, sm, (bt, tx), (ch, wo, wr)))).1)), (a 8, gI g 4096 ((rfR kw hs kv rd sd (fr, (dg, sm, (bt, tx), (ch, wo, wr)))).2.1)), (a 9, gI g 128 ((rfR kw hs kv rd sd (fr, (dg, sm, (bt, tx), (ch, wo, wr)))).2.2.1)), (a 10, gI g 64 rd), (a 30, gI g 128 ((rfR kw hs kv rd sd (fr, (dg, sm, (bt, tx), (ch, wo, wr)))).2.2.2.1.2)), (a 31, gI g 64 ((rfR kw hs kv rd sd (fr, (dg, sm, (bt, tx), (ch, wo, wr)))).2.2.2.2.2.1)), (a 32, gI g 8 ((rfR kw hs kv rd sd (fr, (dg, sm, (bt, tx), (ch, wo, wr)))).2.2.2.2.1)), (a 33, gI g 8 ((rfR kw hs kv rd sd (fr, (dg, sm, (bt, tx), (ch, wo, wr)))).2.2.2.2.2.2))]) := by
  have hinX5 : ∀ w ∈ wsX50, w ∈ wsX5_sum := by
    intro w h
    unfold wsX5_sum
    simp only [List.mem_cons, List.mem_append]
    simp only [h, or_true, true_or]
  refine g_enter (cc := cX5_sum) (maxL := 3) (ret := (some .int)) (own := RX5) (L := [(0, .ref (a 0)), (1, .int (nI sd)), (2, .int (nI r))]) (by decide) rfl rfl (Nat.le_of_ble_eq_true rfl) rfl ?_
  intro p e s m args below meth c hin0 C
  refine g_iload_n C dX5_sum_0 rfl 1 rfl ?_
  refine g_iload_n C dX5_sum_1 rfl 2 rfl ?_
  refine g_callS1 (wr := [(a 0, oM a th (bI wk) ro (nI lo) (nI ne) (nI di) (bI ta) (nI ce) (nI fo) (nI bt)), (a 2, gZ g 8 hs), (a 5, gZ g 512 kw), (a 6, gJ g 512 kv), (a 7, gZ g 2 fr), (a 8, gI g 4096 dg), (a 9, gI g 128 sm), (a 10, gI g 64 rd), (a 30, gI g 128 tx), (a 31, gI g 64 wo), (a 32, gI g 8 ch), (a 33, gI g 8 wr)]) (w2 := [(a 0, oM a th (bI wk) ro (nI lo) (nI ne) (nI di) (bI ta) (nI ce) (nI fo) (nI bt)), (a 2, gZ g 8 hs), (a 5, gZ g 512 kw), (a 6, gJ g 512 kv), (a 7, gZ g 2 fr), (a 8, gI g 4096 dg), (a 9, gI g 128 sm), (a 10, gI g 64 rd), (a 30, gI g 128 tx), (a 31, gI g 64 wo), (a 32, gI g 8 ch), (a 33, gI g 8 wr)]) C (c_X5_isRange l g (nI sd) (nI r)) (va_cwS 2 C.2.2.2.2.1 gX5_sum_X5_isRange rfl rfl rfl (by decide +kernel) ⟨Nat.le_of_ble_eq_true rfl, Nat.le_of_ble_eq_true rfl⟩) [] [0, 1, 2, 3, 4, 5, 6, 7, 8, 9, 10, 11] rfl rfl rfl rfl rfl (by decide) rfl rfl (Nat.le_of_ble_eq_true rfl) dX5_sum_2 ⟨Nat.le_of_ble_eq_true rfl, Nat.le_of_ble_eq_true rfl⟩ rfl ?_
  refine g_if_ne_b (tgt := 13) C dX5_sum_5 (by decide) (fun c5 => ?_) (fun c5 => ?_)
  · skip
    refine g_aload_n C dX5_sum_13 rfl 0 rfl ?_
    refine g_iconst (v := nI 0) C dX5_sum_14 (by decide) ?_
    refine g_put (ty := .int) (w2 := [(a 0, oM a (nI 0) (bI wk) ro (nI lo) (nI ne) (nI di) (bI ta) (nI ce) (nI fo) (nI bt)), (a 2, gZ g 8 hs), (a 5, gZ g 512 kw), (a 6, gJ g 512 kv), (a 7, gZ g 2 fr), (a 8, gI g 4096 dg), (a 9, gI g 128 sm), (a 10, gI g 64 rd), (a 30, gI g 128 tx), (a 31, gI g 64 wo), (a 32, gI g 8 ch), (a 33, gI g 8 wr)]) C hinX5 0 rfl rfl 0 (by decide) (by decide +kernel) rfl tyX5 tyX5_ok nmX5 rfl (by decide +kernel) rfl rfl (Nat.le_of_ble_eq_true rfl) rfl dX5_sum_15 ?_
    refine g_aload_n C dX5_sum_18 rfl 0 rfl ?_
    refine g_iload_n C dX5_sum_19 rfl 1 rfl ?_
    refine g_callV0 (wr := []) (w2 := [(a 0, oM a (nI 0) (bI wk) ro (nI lo) (nI ne) (nI di) (bI ta) (nI ce) (nI fo) (nI ((rfR kw hs kv rd sd (fr, (dg, sm, (bt, tx), (ch, wo, wr)))).2.2.2.1.1))), (a 2, gZ g 8 hs), (a 5, gZ g 512 kw), (a 6, gJ g 512 kv), (a 7, gZ g 2 ((rfR kw hs kv rd sd (fr, (dg, sm, (bt, tx), (ch, wo, wr)))).1)), (a 8, gI g 4096 ((rfR kw hs kv rd sd (fr, (dg, sm, (bt, tx), (ch, wo, wr)))).2.1)), (a 9, gI g 128 ((rfR kw hs kv rd sd (fr, (dg, sm, (bt, tx), (ch, wo, wr)))).2.2.1)), (a 10, gI g 64 rd), (a 30, gI g 128 ((rfR kw hs kv rd sd (fr, (dg, sm, (bt, tx), (ch, wo, wr)))).2.2.2.1.2)), (a 31, gI g 64 ((rfR kw hs kv rd sd (fr, (dg, sm, (bt, tx), (ch, wo, wr)))).2.2.2.2.2.1)), (a 32, gI g 8 ((rfR kw hs kv rd sd (fr, (dg, sm, (bt, tx), (ch, wo, wr)))).2.2.2.2.1)), (a 33, gI g 8 ((rfR kw hs kv rd sd (fr, (dg, sm, (bt, tx), (ch, wo, wr)))).2.2.2.2.2.2))]) C (c_X5_refresh l g a (nI 0) wk ro lo ne di ta ce fo bt hs kw kv fr dg sm rd tx wo ch wr sd (by omega)) (cwV 1 C.2.2.2.2.1 gX5_sum_X5_refresh rfl rfl rfl (by decide +kernel) ⟨Nat.le_of_ble_eq_true rfl, Nat.le_of_ble_eq_true rfl⟩) 0 rfl rfl rfl [0, 1, 2, 3, 4, 5, 6, 7, 8, 9, 10, 11] [] rfl rfl rfl rfl rfl (by decide) rfl rfl (Nat.le_of_ble_eq_true rfl) dX5_sum_20 ⟨Nat.le_of_ble_eq_true rfl, Nat.le_of_ble_eq_true rfl⟩ rfl ?_
    refine g_aload_n C dX5_sum_23 rfl 0 rfl ?_
    refine g_get C hinX5 0 rfl rfl 8 (by decide) (by decide +kernel) rfl rfl dX5_sum_24 ?_
    refine g_bipush (v := nI 64) C dX5_sum_27 (by decide) ?_
    refine g_iload_n C dX5_sum_29 rfl 1 rfl ?_
    refine g_imul_n C dX5_sum_30 ?_
    refine g_iload_n C dX5_sum_31 rfl 2 rfl ?_
    refine g_iadd_n C dX5_sum_32 ?_
    refine g_iald C 6 rfl (by omega) (by decide) dX5_sum_33 ?_
    refine g_iret C dX5_sum_34 (by decide) (by decide) ?_
    exact ⟨rfl, rfl⟩
  · skip
    exact absurd (c5.symm.trans (show (wiN (nI sd) (nI 0) (nI 1) && wiN (nI r) (nI 1) (nI 63)) = true by rw [wiN_n (by omega) (by omega) (by decide), wiN_n (by omega) (by omega) (by decide)]; rfl)) (by decide)
set_option maxHeartbeats 4000000 in
set_option maxRecDepth 100000 in
theorem c_X5_sum_bad (l : Launch) (g : gE) (a : Nat → Nat) (th : Int32) (wk : Bool) (ro : Int32) (lo ne di : Nat) (ta : Bool) (ce fo bt : Nat) (x y : Int32) (hb : (wiN x (nI 0) (nI 1) && wiN y (nI 1) (nI 63)) = false) : Kt l g yX5_sum wsX5_sum 2 43 0 0 [.ref (a 0), .int x, .int y] [(a 0, oM a th (bI wk) ro (nI lo) (nI ne) (nI di) (bI ta) (nI ce) (nI fo) (nI bt))] (kR (some (.int (nI 0))) [(a 0, oM a (nI 1) (bI wk) ro (nI lo) (nI ne) (nI di) (bI ta) (nI ce) (nI fo) (nI bt))]) := by
  refine g_enter (cc := cX5_sum) (maxL := 3) (ret := (some .int)) (own := RX5) (L := [(0, .ref (a 0)), (1, .int x), (2, .int y)]) (by decide) rfl rfl (Nat.le_of_ble_eq_true rfl) rfl ?_
  intro p e s m args below meth c hin0 C
  refine g_iload_n C dX5_sum_0 rfl 1 rfl ?_
  refine g_iload_n C dX5_sum_1 rfl 2 rfl ?_
  refine g_callS1 (wr := [(a 0, oM a th (bI wk) ro (nI lo) (nI ne) (nI di) (bI ta) (nI ce) (nI fo) (nI bt))]) (w2 := [(a 0, oM a th (bI wk) ro (nI lo) (nI ne) (nI di) (bI ta) (nI ce) (nI fo) (nI bt))]) C (c_X5_isRange l g x y) (va_cwS 2 C.2.2.2.2.1 gX5_sum_X5_isRange rfl rfl rfl (by decide +kernel) ⟨Nat.le_of_ble_eq_true rfl, Nat.le_of_ble_eq_true rfl⟩) [] [0] rfl rfl rfl rfl rfl (by decide) rfl rfl (Nat.le_of_ble_eq_true rfl) dX5_sum_2 ⟨Nat.le_of_ble_eq_true rfl, Nat.le_of_ble_eq_true rfl⟩ rfl ?_
  refine g_if_ne_b (tgt := 13) C dX5_sum_5 (by decide) (fun c5 => ?_) (fun c5 => ?_)
  · skip
    exact absurd (hb.symm.trans c5) (by decide)
  · skip
    refine g_aload_n C dX5_sum_8 rfl 0 rfl ?_
    refine g_callV1 (wr := []) (w2 := [(a 0, oM a (nI 1) (bI wk) ro (nI lo) (nI ne) (nI di) (bI ta) (nI ce) (nI fo) (nI bt))]) C (c_X5_raise l g a th wk ro lo ne di ta ce fo bt) (cwV 0 C.2.2.2.2.1 gX5_sum_X5_raise rfl rfl rfl (by decide +kernel) ⟨Nat.le_of_ble_eq_true rfl, Nat.le_of_ble_eq_true rfl⟩) 0 rfl rfl rfl [0] [] rfl rfl rfl rfl rfl (by decide) rfl rfl (Nat.le_of_ble_eq_true rfl) dX5_sum_9 ⟨Nat.le_of_ble_eq_true rfl, Nat.le_of_ble_eq_true rfl⟩ rfl ?_
    refine g_iret C dX5_sum_12 (by decide) (by decide) ?_
    exact ⟨rfl, rfl⟩
