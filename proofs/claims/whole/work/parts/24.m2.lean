set_option maxHeartbeats 4000000 in
set_option maxRecDepth 100000 in
theorem c_X5_many_t (l : Launch) (g : gE) (a : Nat → Nat) (th : Int32) (wk : Bool) (ro : Int32) (lo ne di : Nat) (ta : Bool) (ce fo bt : Nat) (hs : Nat → Bool) (kw : Nat → Bool) (sd r : Nat) (hs1 : sd < 2) (h1 : 1 ≤ r) (h2 : r < 64) : Kt l g yX5_many wsX5_many 1 21 0 0 [.ref (a 0), .int (nI sd), .int (nI r), .int (bI true)] [(a 0, oM a th (bI wk) ro (nI lo) (nI ne) (nI di) (bI ta) (nI ce) (nI fo) (nI bt)), (a 2, gZ g 8 hs), (a 5, gZ g 512 kw)] (kR (some (.int (nI (mnN kw hs sd r)))) [(a 0, oM a th (bI wk) ro (nI lo) (nI ne) (nI di) (bI ta) (nI ce) (nI fo) (nI bt)), (a 2, gZ g 8 hs), (a 5, gZ g 512 kw)]) := by
  have hinX5 : ∀ w ∈ wsX50, w ∈ wsX5_many := by
    intro w h
    unfold wsX5_many
    simp only [List.mem_cons, List.mem_append]
    simp only [h, or_true, true_or]
  refine g_enter (cc := cX5_many) (maxL := 7) (ret := (some .int)) (own := RX5) (L := [(0, .ref (a 0)), (1, .int (nI sd)), (2, .int (nI r)), (3, .int (bI true))]) (by decide) rfl rfl (Nat.le_of_ble_eq_true rfl) rfl ?_
  intro p e s m args below meth c hin0 C
  have hd : 32 ≤ fLf r ∧ fLf r < 64 := (dbl_ok r h2 h1).2
  have he : 32 ≤ lLf r ∧ lLf r < 64 ∧ fLf r ≤ lLf r := (dbp_ok r h2 h1).2
  have hc := fun i => cntR_le (qM kw hs sd) (8 * (fLf r - 32)) i
  refine g_iconst (v := nI 0) C dX5_many_0 (by decide) ?_
  refine g_istore (L' := [(4, .int (nI 0)), (0, .ref (a 0)), (1, .int (nI sd)), (2, .int (nI r)), (3, .int (bI true))]) C dX5_many_1 (by decide) rfl ?_
  refine g_bipush (v := nI 8) C dX5_many_3 (by decide) ?_
  refine g_iload_n C dX5_many_5 rfl 3 rfl ?_
  refine g_callS1 (wr := [(a 0, oM a th (bI wk) ro (nI lo) (nI ne) (nI di) (bI ta) (nI ce) (nI fo) (nI bt)), (a 2, gZ g 8 hs), (a 5, gZ g 512 kw)]) (w2 := [(a 0, oM a th (bI wk) ro (nI lo) (nI ne) (nI di) (bI ta) (nI ce) (nI fo) (nI bt)), (a 2, gZ g 8 hs), (a 5, gZ g 512 kw)]) C (c_X5_firstLeaf l g r (by omega) (by omega)) (va_cwS 1 C.2.2.2.2.1 gX5_many_X5_firstLeaf rfl rfl rfl (by decide +kernel) ⟨Nat.le_of_ble_eq_true rfl, Nat.le_of_ble_eq_true rfl⟩) [] [0, 1, 2] rfl rfl rfl rfl rfl (by decide) rfl rfl (Nat.le_of_ble_eq_true rfl) dX5_many_6 ⟨Nat.le_of_ble_eq_true rfl, Nat.le_of_ble_eq_true rfl⟩ rfl ?_
  refine g_bipush (v := nI 32) C dX5_many_9 (by decide) ?_
  refine g_isub_n C dX5_many_11 (by omega) ?_
  refine g_imul_n C dX5_many_12 ?_
  refine g_istore (L' := [(5, .int (nI (8 * ((fLf r) - 32)))), (4, .int (nI 0)), (0, .ref (a 0)), (1, .int (nI sd)), (2, .int (nI r)), (3, .int (bI true))]) C dX5_many_13 (by decide) rfl ?_
  refine g_L (L2 := [(0, .ref (a 0)), (1, .int (nI sd)), (2, .int (nI r)), (3, .int (bI true)), (4, .int (nI 0)), (5, .int (nI (8 * ((fLf r) - 32))))]) [2, 3, 4, 5, 1, 0] rfl ?_
  refine g_up (8 * (lLf r - 32) + 8 - 8 * (fLf r - 32)) 0 (fun _ => True) (fun j => [(0, .ref (a 0)), (1, .int (nI sd)), (2, .int (nI r)), (3, .int (bI true)), (4, .int (nI (cntR (qM kw hs sd) (8 * (fLf r - 32)) j))), (5, .int (nI (8 * (fLf r - 32) + j)))]) (fun j => [(a 0, oM a th (bI wk) ro (nI lo) (nI ne) (nI di) (bI ta) (nI ce) (nI fo) (nI bt)), (a 2, gZ g 8 hs), (a 5, gZ g 512 kw)]) (by omega) (trivial) ?_ ?_
  · intro hPj
    try dsimp only
    refine g_iload C dX5_many_15 5 rfl ?_
    refine g_bipush (v := nI 8) C dX5_many_17 (by decide) ?_
    refine g_iload_n C dX5_many_19 rfl 2 rfl ?_
    refine g_callS1 (wr := [(a 0, oM a th (bI wk) ro (nI lo) (nI ne) (nI di) (bI ta) (nI ce) (nI fo) (nI bt)), (a 2, gZ g 8 hs), (a 5, gZ g 512 kw)]) (w2 := [(a 0, oM a th (bI wk) ro (nI lo) (nI ne) (nI di) (bI ta) (nI ce) (nI fo) (nI bt)), (a 2, gZ g 8 hs), (a 5, gZ g 512 kw)]) C (c_X5_lastLeaf l g r (by omega) (by omega)) (va_cwS 1 C.2.2.2.2.1 gX5_many_X5_lastLeaf rfl rfl rfl (by decide +kernel) ⟨Nat.le_of_ble_eq_true rfl, Nat.le_of_ble_eq_true rfl⟩) [] [0, 1, 2] rfl rfl rfl rfl rfl (by decide) rfl rfl (Nat.le_of_ble_eq_true rfl) dX5_many_20 ⟨Nat.le_of_ble_eq_true rfl, Nat.le_of_ble_eq_true rfl⟩ rfl ?_
    refine g_bipush (v := nI 32) C dX5_many_23 (by decide) ?_
    refine g_isub_n C dX5_many_25 (by omega) ?_
    refine g_imul_n C dX5_many_26 ?_
    refine g_bipush (v := nI 8) C dX5_many_27 (by decide) ?_
    refine g_iadd_n C dX5_many_29 ?_
    refine g_icmp_ge_n (tgt := 101) C dX5_many_30 (by decide) (by omega) (by omega) (fun c30 => ?_) (fun c30 => ?_)
    · skip
      refine g_iload C dX5_many_101 4 rfl ?_
      refine g_iret C dX5_many_103 (by decide) (by decide) ?_
      exact ⟨rfl, rfl⟩
    · skip
      exfalso; omega
  · intro j hlj huj hPj ihj
    try dsimp only at ihj ⊢
    have hc1 := hc j
    refine g_iload C dX5_many_15 5 rfl ?_
    refine g_bipush (v := nI 8) C dX5_many_17 (by decide) ?_
    refine g_iload_n C dX5_many_19 rfl 2 rfl ?_
    refine g_callS1 (wr := [(a 0, oM a th (bI wk) ro (nI lo) (nI ne) (nI di) (bI ta) (nI ce) (nI fo) (nI bt)), (a 2, gZ g 8 hs), (a 5, gZ g 512 kw)]) (w2 := [(a 0, oM a th (bI wk) ro (nI lo) (nI ne) (nI di) (bI ta) (nI ce) (nI fo) (nI bt)), (a 2, gZ g 8 hs), (a 5, gZ g 512 kw)]) C (c_X5_lastLeaf l g r (by omega) (by omega)) (va_cwS 1 C.2.2.2.2.1 gX5_many_X5_lastLeaf rfl rfl rfl (by decide +kernel) ⟨Nat.le_of_ble_eq_true rfl, Nat.le_of_ble_eq_true rfl⟩) [] [0, 1, 2] rfl rfl rfl rfl rfl (by decide) rfl rfl (Nat.le_of_ble_eq_true rfl) dX5_many_20 ⟨Nat.le_of_ble_eq_true rfl, Nat.le_of_ble_eq_true rfl⟩ rfl ?_
    refine g_bipush (v := nI 32) C dX5_many_23 (by decide) ?_
    refine g_isub_n C dX5_many_25 (by omega) ?_
    refine g_imul_n C dX5_many_26 ?_
    refine g_bipush (v := nI 8) C dX5_many_27 (by decide) ?_
    refine g_iadd_n C dX5_many_29 ?_
    refine g_icmp_ge_n (tgt := 101) C dX5_many_30 (by decide) (by omega) (by omega) (fun c30 => ?_) (fun c30 => ?_)
    · skip
      exfalso; omega
    · skip
      refine g_iload_n C dX5_many_33 rfl 3 rfl ?_
      refine g_if_eq_b (tgt := 53) C dX5_many_34 (by decide) (fun c34 => ?_) (fun c34 => ?_)
      · skip
        exact absurd c34 (by decide)
      · skip
        refine g_aload_n C dX5_many_37 rfl 0 rfl ?_
        refine g_get C hinX5 0 rfl rfl 4 (by decide) (by decide +kernel) rfl rfl dX5_many_38 ?_
        refine g_sipush (v := nI 256) C dX5_many_41 (by decide) ?_
        refine g_iload_n C dX5_many_44 rfl 1 rfl ?_
        refine g_imul_n C dX5_many_45 ?_
        refine g_iload C dX5_many_46 5 rfl ?_
        refine g_iadd_n C dX5_many_48 ?_
        refine g_zald C 2 rfl (by omega) (by decide) dX5_many_49 ?_
        refine g_goto (tgt := 66) C dX5_many_50 (by decide) ?_
        refine g_istore (L' := [(6, .int (bI (kw ((256 * sd) + (8 * (fLf r - 32) + j))))), (0, .ref (a 0)), (1, .int (nI sd)), (2, .int (nI r)), (3, .int (bI true)), (4, .int (nI (cntR (qM kw hs sd) (8 * (fLf r - 32)) j))), (5, .int (nI (8 * (fLf r - 32) + j)))]) C dX5_many_66 (by decide) rfl ?_
        refine g_iload C dX5_many_68 5 rfl ?_
        refine g_iload C dX5_many_70 0 rfl ?_
        refine g_if_eq_b (tgt := 91) C dX5_many_72 (by decide) (fun c72 => ?_) (fun c72 => ?_)
        · skip
          rw [cntR_f (show qM kw hs sd (8 * (fLf r - 32) + j) = false by simp [qM, c72])] at ihj
          refine g_iconst (v := nI 0) C dX5_many_91 (by decide) ?_
          refine g_iadd_n C dX5_many_92 ?_
          refine g_istore (L' := [(4, .int (nI ((cntR (qM kw hs sd) (8 * (fLf r - 32)) j) + 0))), (6, .int (bI (kw ((256 * sd) + (8 * (fLf r - 32) + j))))), (0, .ref (a 0)), (1, .int (nI sd)), (2, .int (nI r)), (3, .int (bI true)), (5, .int (nI (8 * (fLf r - 32) + j)))]) C dX5_many_93 (by decide) rfl ?_
          refine g_iinc_n (d := 1) (L' := [(5, .int (nI ((8 * (fLf r - 32) + j) + 1))), (4, .int (nI ((cntR (qM kw hs sd) (8 * (fLf r - 32)) j) + 0))), (6, .int (bI (kw ((256 * sd) + (8 * (fLf r - 32) + j))))), (0, .ref (a 0)), (1, .int (nI sd)), (2, .int (nI r)), (3, .int (bI true))]) C dX5_many_95 6 rfl (by decide) (by decide) rfl ?_
          refine g_goto (tgt := 15) C dX5_many_98 (by decide) ?_
          refine g_L (L2 := [(0, .ref (a 0)), (1, .int (nI sd)), (2, .int (nI r)), (3, .int (bI true)), (4, .int (nI ((cntR (qM kw hs sd) (8 * (fLf r - 32)) j) + 0))), (5, .int (nI ((8 * (fLf r - 32) + j) + 1)))]) [3, 4, 5, 6, 1, 0] rfl ?_
          exact ihj (trivial)
        · skip
          refine g_aload_n C dX5_many_75 rfl 1 rfl ?_
          refine g_iload C dX5_many_76 6 rfl ?_
          refine g_bipush (v := nI 64) C dX5_many_78 (by decide) ?_
          refine g_idiv_n C dX5_many_80 (by omega) (by omega) (by omega) ?_
          refine g_callV1 (wr := [(a 5, gZ g 512 kw)]) (w2 := [(a 5, gZ g 512 kw), (a 0, oM a th (bI wk) ro (nI lo) (nI ne) (nI di) (bI ta) (nI ce) (nI fo) (nI bt)), (a 2, gZ g 8 hs)]) C (c_X5_counts l g a th wk ro lo ne di ta ce fo bt hs ((8 * (fLf r - 32) + j) / 64) (by omega)) (cwV 1 C.2.2.2.2.1 gX5_many_X5_counts rfl rfl rfl (by decide +kernel) ⟨Nat.le_of_ble_eq_true rfl, Nat.le_of_ble_eq_true rfl⟩) 0 rfl rfl rfl [0, 1] [2] rfl rfl rfl rfl rfl (by decide) rfl rfl (Nat.le_of_ble_eq_true rfl) dX5_many_81 ⟨Nat.le_of_ble_eq_true rfl, Nat.le_of_ble_eq_true rfl⟩ rfl ?_
          refine g_if_eq_b (tgt := 91) C dX5_many_84 (by decide) (fun c84 => ?_) (fun c84 => ?_)
          · skip
            rw [cntR_f (show qM kw hs sd (8 * (fLf r - 32) + j) = false by rw [qM, c72, c84]; rfl)] at ihj
            refine g_iconst (v := nI 0) C dX5_many_91 (by decide) ?_
            refine g_iadd_n C dX5_many_92 ?_
            refine g_istore (L' := [(4, .int (nI ((cntR (qM kw hs sd) (8 * (fLf r - 32)) j) + 0))), (6, .int (bI (kw ((256 * sd) + (8 * (fLf r - 32) + j))))), (0, .ref (a 0)), (1, .int (nI sd)), (2, .int (nI r)), (3, .int (bI true)), (5, .int (nI (8 * (fLf r - 32) + j)))]) C dX5_many_93 (by decide) rfl ?_
            refine g_iinc_n (d := 1) (L' := [(5, .int (nI ((8 * (fLf r - 32) + j) + 1))), (4, .int (nI ((cntR (qM kw hs sd) (8 * (fLf r - 32)) j) + 0))), (6, .int (bI (kw ((256 * sd) + (8 * (fLf r - 32) + j))))), (0, .ref (a 0)), (1, .int (nI sd)), (2, .int (nI r)), (3, .int (bI true))]) C dX5_many_95 6 rfl (by decide) (by decide) rfl ?_
            refine g_goto (tgt := 15) C dX5_many_98 (by decide) ?_
            refine g_L (L2 := [(0, .ref (a 0)), (1, .int (nI sd)), (2, .int (nI r)), (3, .int (bI true)), (4, .int (nI ((cntR (qM kw hs sd) (8 * (fLf r - 32)) j) + 0))), (5, .int (nI ((8 * (fLf r - 32) + j) + 1)))]) [3, 4, 5, 6, 1, 0] rfl ?_
            refine g_perm (w2 := [(a 0, oM a th (bI wk) ro (nI lo) (nI ne) (nI di) (bI ta) (nI ce) (nI fo) (nI bt)), (a 2, gZ g 8 hs), (a 5, gZ g 512 kw)]) [1, 2, 0] rfl rfl rfl ?_
            exact ihj (trivial)
          · skip
            rw [cntR_t (show qM kw hs sd (8 * (fLf r - 32) + j) = true by rw [qM, c72, c84]; rfl)] at ihj
            refine g_iconst (v := nI 1) C dX5_many_87 (by decide) ?_
            refine g_goto (tgt := 92) C dX5_many_88 (by decide) ?_
            refine g_iadd_n C dX5_many_92 ?_
            refine g_istore (L' := [(4, .int (nI ((cntR (qM kw hs sd) (8 * (fLf r - 32)) j) + 1))), (6, .int (bI (kw ((256 * sd) + (8 * (fLf r - 32) + j))))), (0, .ref (a 0)), (1, .int (nI sd)), (2, .int (nI r)), (3, .int (bI true)), (5, .int (nI (8 * (fLf r - 32) + j)))]) C dX5_many_93 (by decide) rfl ?_
            refine g_iinc_n (d := 1) (L' := [(5, .int (nI ((8 * (fLf r - 32) + j) + 1))), (4, .int (nI ((cntR (qM kw hs sd) (8 * (fLf r - 32)) j) + 1))), (6, .int (bI (kw ((256 * sd) + (8 * (fLf r - 32) + j))))), (0, .ref (a 0)), (1, .int (nI sd)), (2, .int (nI r)), (3, .int (bI true))]) C dX5_many_95 6 rfl (by decide) (by decide) rfl ?_
            refine g_goto (tgt := 15) C dX5_many_98 (by decide) ?_
            refine g_L (L2 := [(0, .ref (a 0)), (1, .int (nI sd)), (2, .int (nI r)), (3, .int (bI true)), (4, .int (nI ((cntR (qM kw hs sd) (8 * (fLf r - 32)) j) + 1))), (5, .int (nI ((8 * (fLf r - 32) + j) + 1)))]) [3, 4, 5, 6, 1, 0] rfl ?_
            refine g_perm (w2 := [(a 0, oM a th (bI wk) ro (nI lo) (nI ne) (nI di) (bI ta) (nI ce) (nI fo) (nI bt)), (a 2, gZ g 8 hs), (a 5, gZ g 512 kw)]) [1, 2, 0] rfl rfl rfl ?_
            exact ihj (trivial)
set_option maxHeartbeats 4000000 in
set_option maxRecDepth 100000 in
theorem c_X5_many_f (l : Launch) (g : gE) (a : Nat → Nat) (th : Int32) (wk : Bool) (ro : Int32) (lo ne di : Nat) (ta : Bool) (ce fo bt : Nat) (hs : Nat → Bool) (tr : Nat → Bool) (sd r : Nat) (hs1 : sd < 2) (h1 : 1 ≤ r) (h2 : r < 64) : Kt l g yX5_many wsX5_many 1 21 0 0 [.ref (a 0), .int (nI sd), .int (nI r), .int (bI false)] [(a 0, oM a th (bI wk) ro (nI lo) (nI ne) (nI di) (bI ta) (nI ce) (nI fo) (nI bt)), (a 2, gZ g 8 hs), (a 3, gZ g 512 tr)] (kR (some (.int (nI (mnN tr hs sd r)))) [(a 0, oM a th (bI wk) ro (nI lo) (nI ne) (nI di) (bI ta) (nI ce) (nI fo) (nI bt)), (a 2, gZ g 8 hs), (a 3, gZ g 512 tr)]) := by
  have hinX5 : ∀ w ∈ wsX50, w ∈ wsX5_many := by
    intro w h
    unfold wsX5_many
    simp only [List.mem_cons, List.mem_append]
    simp only [h, or_true, true_or]
  refine g_enter (cc := cX5_many) (maxL := 7) (ret := (some .int)) (own := RX5) (L := [(0, .ref (a 0)), (1, .int (nI sd)), (2, .int (nI r)), (3, .int (bI false))]) (by decide) rfl rfl (Nat.le_of_ble_eq_true rfl) rfl ?_
  intro p e s m args below meth c hin0 C
  have hd : 32 ≤ fLf r ∧ fLf r < 64 := (dbl_ok r h2 h1).2
  have he : 32 ≤ lLf r ∧ lLf r < 64 ∧ fLf r ≤ lLf r := (dbp_ok r h2 h1).2
  have hc := fun i => cntR_le (qM tr hs sd) (8 * (fLf r - 32)) i
  refine g_iconst (v := nI 0) C dX5_many_0 (by decide) ?_
  refine g_istore (L' := [(4, .int (nI 0)), (0, .ref (a 0)), (1, .int (nI sd)), (2, .int (nI r)), (3, .int (bI false))]) C dX5_many_1 (by decide) rfl ?_
  refine g_bipush (v := nI 8) C dX5_many_3 (by decide) ?_
  refine g_iload_n C dX5_many_5 rfl 3 rfl ?_
  refine g_callS1 (wr := [(a 0, oM a th (bI wk) ro (nI lo) (nI ne) (nI di) (bI ta) (nI ce) (nI fo) (nI bt)), (a 2, gZ g 8 hs), (a 3, gZ g 512 tr)]) (w2 := [(a 0, oM a th (bI wk) ro (nI lo) (nI ne) (nI di) (bI ta) (nI ce) (nI fo) (nI bt)), (a 2, gZ g 8 hs), (a 3, gZ g 512 tr)]) C (c_X5_firstLeaf l g r (by omega) (by omega)) (va_cwS 1 C.2.2.2.2.1 gX5_many_X5_firstLeaf rfl rfl rfl (by decide +kernel) ⟨Nat.le_of_ble_eq_true rfl, Nat.le_of_ble_eq_true rfl⟩) [] [0, 1, 2] rfl rfl rfl rfl rfl (by decide) rfl rfl (Nat.le_of_ble_eq_true rfl) dX5_many_6 ⟨Nat.le_of_ble_eq_true rfl, Nat.le_of_ble_eq_true rfl⟩ rfl ?_
  refine g_bipush (v := nI 32) C dX5_many_9 (by decide) ?_
  refine g_isub_n C dX5_many_11 (by omega) ?_
  refine g_imul_n C dX5_many_12 ?_
  refine g_istore (L' := [(5, .int (nI (8 * ((fLf r) - 32)))), (4, .int (nI 0)), (0, .ref (a 0)), (1, .int (nI sd)), (2, .int (nI r)), (3, .int (bI false))]) C dX5_many_13 (by decide) rfl ?_
  refine g_L (L2 := [(0, .ref (a 0)), (1, .int (nI sd)), (2, .int (nI r)), (3, .int (bI false)), (4, .int (nI 0)), (5, .int (nI (8 * ((fLf r) - 32))))]) [2, 3, 4, 5, 1, 0] rfl ?_
  refine g_up (8 * (lLf r - 32) + 8 - 8 * (fLf r - 32)) 0 (fun _ => True) (fun j => [(0, .ref (a 0)), (1, .int (nI sd)), (2, .int (nI r)), (3, .int (bI false)), (4, .int (nI (cntR (qM tr hs sd) (8 * (fLf r - 32)) j))), (5, .int (nI (8 * (fLf r - 32) + j)))]) (fun j => [(a 0, oM a th (bI wk) ro (nI lo) (nI ne) (nI di) (bI ta) (nI ce) (nI fo) (nI bt)), (a 2, gZ g 8 hs), (a 3, gZ g 512 tr)]) (by omega) (trivial) ?_ ?_
  · intro hPj
    try dsimp only
    refine g_iload C dX5_many_15 5 rfl ?_
    refine g_bipush (v := nI 8) C dX5_many_17 (by decide) ?_
    refine g_iload_n C dX5_many_19 rfl 2 rfl ?_
    refine g_callS1 (wr := [(a 0, oM a th (bI wk) ro (nI lo) (nI ne) (nI di) (bI ta) (nI ce) (nI fo) (nI bt)), (a 2, gZ g 8 hs), (a 3, gZ g 512 tr)]) (w2 := [(a 0, oM a th (bI wk) ro (nI lo) (nI ne) (nI di) (bI ta) (nI ce) (nI fo) (nI bt)), (a 2, gZ g 8 hs), (a 3, gZ g 512 tr)]) C (c_X5_lastLeaf l g r (by omega) (by omega)) (va_cwS 1 C.2.2.2.2.1 gX5_many_X5_lastLeaf rfl rfl rfl (by decide +kernel) ⟨Nat.le_of_ble_eq_true rfl, Nat.le_of_ble_eq_true rfl⟩) [] [0, 1, 2] rfl rfl rfl rfl rfl (by decide) rfl rfl (Nat.le_of_ble_eq_true rfl) dX5_many_20 ⟨Nat.le_of_ble_eq_true rfl, Nat.le_of_ble_eq_true rfl⟩ rfl ?_
    refine g_bipush (v := nI 32) C dX5_many_23 (by decide) ?_
    refine g_isub_n C dX5_many_25 (by omega) ?_
    refine g_imul_n C dX5_many_26 ?_
    refine g_bipush (v := nI 8) C dX5_many_27 (by decide) ?_
    refine g_iadd_n C dX5_many_29 ?_
    refine g_icmp_ge_n (tgt := 101) C dX5_many_30 (by decide) (by omega) (by omega) (fun c30 => ?_) (fun c30 => ?_)
    · skip
      refine g_iload C dX5_many_101 4 rfl ?_
      refine g_iret C dX5_many_103 (by decide) (by decide) ?_
      exact ⟨rfl, rfl⟩
    · skip
      exfalso; omega
  · intro j hlj huj hPj ihj
    try dsimp only at ihj ⊢
    have hc1 := hc j
    refine g_iload C dX5_many_15 5 rfl ?_
    refine g_bipush (v := nI 8) C dX5_many_17 (by decide) ?_
    refine g_iload_n C dX5_many_19 rfl 2 rfl ?_
    refine g_callS1 (wr := [(a 0, oM a th (bI wk) ro (nI lo) (nI ne) (nI di) (bI ta) (nI ce) (nI fo) (nI bt)), (a 2, gZ g 8 hs), (a 3, gZ g 512 tr)]) (w2 := [(a 0, oM a th (bI wk) ro (nI lo) (nI ne) (nI di) (bI ta) (nI ce) (nI fo) (nI bt)), (a 2, gZ g 8 hs), (a 3, gZ g 512 tr)]) C (c_X5_lastLeaf l g r (by omega) (by omega)) (va_cwS 1 C.2.2.2.2.1 gX5_many_X5_lastLeaf rfl rfl rfl (by decide +kernel) ⟨Nat.le_of_ble_eq_true rfl, Nat.le_of_ble_eq_true rfl⟩) [] [0, 1, 2] rfl rfl rfl rfl rfl (by decide) rfl rfl (Nat.le_of_ble_eq_true rfl) dX5_many_20 ⟨Nat.le_of_ble_eq_true rfl, Nat.le_of_ble_eq_true rfl⟩ rfl ?_
    refine g_bipush (v := nI 32) C dX5_many_23 (by decide) ?_
    refine g_isub_n C dX5_many_25 (by omega) ?_
    refine g_imul_n C dX5_many_26 ?_
    refine g_bipush (v := nI 8) C dX5_many_27 (by decide) ?_
    refine g_iadd_n C dX5_many_29 ?_
    refine g_icmp_ge_n (tgt := 101) C dX5_many_30 (by decide) (by omega) (by omega) (fun c30 => ?_) (fun c30 => ?_)
    · skip
      exfalso; omega
    · skip
      refine g_iload_n C dX5_many_33 rfl 3 rfl ?_
      refine g_if_eq_b (tgt := 53) C dX5_many_34 (by decide) (fun c34 => ?_) (fun c34 => ?_)
      · skip
        refine g_aload_n C dX5_many_53 rfl 0 rfl ?_
        refine g_get C hinX5 0 rfl rfl 2 (by decide) (by decide +kernel) rfl rfl dX5_many_54 ?_
        refine g_sipush (v := nI 256) C dX5_many_57 (by decide) ?_
        refine g_iload_n C dX5_many_60 rfl 1 rfl ?_
        refine g_imul_n C dX5_many_61 ?_
        refine g_iload C dX5_many_62 5 rfl ?_
        refine g_iadd_n C dX5_many_64 ?_
        refine g_zald C 2 rfl (by omega) (by decide) dX5_many_65 ?_
        refine g_istore (L' := [(6, .int (bI (tr ((256 * sd) + (8 * (fLf r - 32) + j))))), (0, .ref (a 0)), (1, .int (nI sd)), (2, .int (nI r)), (3, .int (bI false)), (4, .int (nI (cntR (qM tr hs sd) (8 * (fLf r - 32)) j))), (5, .int (nI (8 * (fLf r - 32) + j)))]) C dX5_many_66 (by decide) rfl ?_
        refine g_iload C dX5_many_68 5 rfl ?_
        refine g_iload C dX5_many_70 0 rfl ?_
        refine g_if_eq_b (tgt := 91) C dX5_many_72 (by decide) (fun c72 => ?_) (fun c72 => ?_)
        · skip
          rw [cntR_f (show qM tr hs sd (8 * (fLf r - 32) + j) = false by simp [qM, c72])] at ihj
          refine g_iconst (v := nI 0) C dX5_many_91 (by decide) ?_
          refine g_iadd_n C dX5_many_92 ?_
          refine g_istore (L' := [(4, .int (nI ((cntR (qM tr hs sd) (8 * (fLf r - 32)) j) + 0))), (6, .int (bI (tr ((256 * sd) + (8 * (fLf r - 32) + j))))), (0, .ref (a 0)), (1, .int (nI sd)), (2, .int (nI r)), (3, .int (bI false)), (5, .int (nI (8 * (fLf r - 32) + j)))]) C dX5_many_93 (by decide) rfl ?_
          refine g_iinc_n (d := 1) (L' := [(5, .int (nI ((8 * (fLf r - 32) + j) + 1))), (4, .int (nI ((cntR (qM tr hs sd) (8 * (fLf r - 32)) j) + 0))), (6, .int (bI (tr ((256 * sd) + (8 * (fLf r - 32) + j))))), (0, .ref (a 0)), (1, .int (nI sd)), (2, .int (nI r)), (3, .int (bI false))]) C dX5_many_95 6 rfl (by decide) (by decide) rfl ?_
          refine g_goto (tgt := 15) C dX5_many_98 (by decide) ?_
          refine g_L (L2 := [(0, .ref (a 0)), (1, .int (nI sd)), (2, .int (nI r)), (3, .int (bI false)), (4, .int (nI ((cntR (qM tr hs sd) (8 * (fLf r - 32)) j) + 0))), (5, .int (nI ((8 * (fLf r - 32) + j) + 1)))]) [3, 4, 5, 6, 1, 0] rfl ?_
          exact ihj (trivial)
        · skip
          refine g_aload_n C dX5_many_75 rfl 1 rfl ?_
          refine g_iload C dX5_many_76 6 rfl ?_
          refine g_bipush (v := nI 64) C dX5_many_78 (by decide) ?_
          refine g_idiv_n C dX5_many_80 (by omega) (by omega) (by omega) ?_
          refine g_callV1 (wr := [(a 3, gZ g 512 tr)]) (w2 := [(a 3, gZ g 512 tr), (a 0, oM a th (bI wk) ro (nI lo) (nI ne) (nI di) (bI ta) (nI ce) (nI fo) (nI bt)), (a 2, gZ g 8 hs)]) C (c_X5_counts l g a th wk ro lo ne di ta ce fo bt hs ((8 * (fLf r - 32) + j) / 64) (by omega)) (cwV 1 C.2.2.2.2.1 gX5_many_X5_counts rfl rfl rfl (by decide +kernel) ⟨Nat.le_of_ble_eq_true rfl, Nat.le_of_ble_eq_true rfl⟩) 0 rfl rfl rfl [0, 1] [2] rfl rfl rfl rfl rfl (by decide) rfl rfl (Nat.le_of_ble_eq_true rfl) dX5_many_81 ⟨Nat.le_of_ble_eq_true rfl, Nat.le_of_ble_eq_true rfl⟩ rfl ?_
          refine g_if_eq_b (tgt := 91) C dX5_many_84 (by decide) (fun c84 => ?_) (fun c84 => ?_)
          · skip
            rw [cntR_f (show qM tr hs sd (8 * (fLf r - 32) + j) = false by rw [qM, c72, c84]; rfl)] at ihj
            refine g_iconst (v := nI 0) C dX5_many_91 (by decide) ?_
            refine g_iadd_n C dX5_many_92 ?_
            refine g_istore (L' := [(4, .int (nI ((cntR (qM tr hs sd) (8 * (fLf r - 32)) j) + 0))), (6, .int (bI (tr ((256 * sd) + (8 * (fLf r - 32) + j))))), (0, .ref (a 0)), (1, .int (nI sd)), (2, .int (nI r)), (3, .int (bI false)), (5, .int (nI (8 * (fLf r - 32) + j)))]) C dX5_many_93 (by decide) rfl ?_
            refine g_iinc_n (d := 1) (L' := [(5, .int (nI ((8 * (fLf r - 32) + j) + 1))), (4, .int (nI ((cntR (qM tr hs sd) (8 * (fLf r - 32)) j) + 0))), (6, .int (bI (tr ((256 * sd) + (8 * (fLf r - 32) + j))))), (0, .ref (a 0)), (1, .int (nI sd)), (2, .int (nI r)), (3, .int (bI false))]) C dX5_many_95 6 rfl (by decide) (by decide) rfl ?_
            refine g_goto (tgt := 15) C dX5_many_98 (by decide) ?_
            refine g_L (L2 := [(0, .ref (a 0)), (1, .int (nI sd)), (2, .int (nI r)), (3, .int (bI false)), (4, .int (nI ((cntR (qM tr hs sd) (8 * (fLf r - 32)) j) + 0))), (5, .int (nI ((8 * (fLf r - 32) + j) + 1)))]) [3, 4, 5, 6, 1, 0] rfl ?_
            refine g_perm (w2 := [(a 0, oM a th (bI wk) ro (nI lo) (nI ne) (nI di) (bI ta) (nI ce) (nI fo) (nI bt)), (a 2, gZ g 8 hs), (a 3, gZ g 512 tr)]) [1, 2, 0] rfl rfl rfl ?_
            exact ihj (trivial)
          · skip
            rw [cntR_t (show qM tr hs sd (8 * (fLf r - 32) + j) = true by rw [qM, c72, c84]; rfl)] at ihj
            refine g_iconst (v := nI 1) C dX5_many_87 (by decide) ?_
            refine g_goto (tgt := 92) C dX5_many_88 (by decide) ?_
            refine g_iadd_n C dX5_many_92 ?_
            refine g_istore (L' := [(4, .int (nI ((cntR (qM tr hs sd) (8 * (fLf r - 32)) j) + 1))), (6, .int (bI (tr ((256 * sd) + (8 * (fLf r - 32) + j))))), (0, .ref (a 0)), (1, .int (nI sd)), (2, .int (nI r)), (3, .int (bI false)), (5, .int (nI (8 * (fLf r - 32) + j)))]) C dX5_many_93 (by decide) rfl ?_
            refine g_iinc_n (d := 1) (L' := [(5, .int (nI ((8 * (fLf r - 32) + j) + 1))), (4, .int (nI ((cntR (qM tr hs sd) (8 * (fLf r - 32)) j) + 1))), (6, .int (bI (tr ((256 * sd) + (8 * (fLf r - 32) + j))))), (0, .ref (a 0)), (1, .int (nI sd)), (2, .int (nI r)), (3, .int (bI false))]) C dX5_many_95 6 rfl (by decide) (by decide) rfl ?_
            refine g_goto (tgt := 15) C dX5_many_98 (by decide) ?_
            refine g_L (L2 := [(0, .ref (a 0)), (1, .int (nI sd)), (2, .int (nI r)), (3, .int (bI false)), (4, .int (nI ((cntR (qM tr hs sd) (8 * (fLf r - 32)) j) + 1))), (5, .int (nI ((8 * (fLf r - 32) + j) + 1)))]) [3, 4, 5, 6, 1, 0] rfl ?_
            refine g_perm (w2 := [(a 0, oM a th (bI wk) ro (nI lo) (nI ne) (nI di) (bI ta) (nI ce) (nI fo) (nI bt)), (a 2, gZ g 8 hs), (a 3, gZ g 512 tr)]) [1, 2, 0] rfl rfl rfl ?_
            exact ihj (trivial)
      · skip
        exact absurd c34 (by decide)
set_option maxHeartbeats 4000000 in
set_option maxRecDepth 100000 in
theorem c_X5_makeLeaf_t (l : Launch) (g : gE) (a : Nat → Nat) (th : Int32) (wk : Bool) (ro : Int32) (lo ne di : Nat) (ta : Bool) (ce fo bt : Nat) (hs : Nat → Bool) (kw : Nat → Bool) (kv : Nat → Int64) (dg : Nat → Int32) (rd : Nat → Int32) (tx : Nat → Int32) (wo : Nat → Int32) (ch : Nat → Int32) (wr : Nat → Int32) (sd r q : Nat) (hs1 : sd < 2) (h1 : 32 ≤ r) (h2 : r < 64) (hq : q + 32 ≤ 4096) : Kt l g yX5_makeLeaf wsX5_makeLeaf 3 71 0 0 [.ref (a 0), .int (nI sd), .int (nI r), .int (bI true), .int (nI q)] [(a 0, oM a th (bI wk) ro (nI lo) (nI ne) (nI di) (bI ta) (nI ce) (nI fo) (nI bt)), (a 2, gZ g 8 hs), (a 5, gZ g 512 kw), (a 6, gJ g 512 kv), (a 8, gI g 4096 dg), (a 10, gI g 64 rd), (a 30, gI g 128 tx), (a 31, gI g 64 wo), (a 32, gI g 8 ch), (a 33, gI g 8 wr)] (kR none [(a 0, oM a th (bI wk) ro (nI lo) (nI ne) (nI di) (bI ta) (nI ce) (nI fo) (nI ((mlE kw hs kv rd sd r q dg tx (ch, wo, wr)).2.1.1))), (a 2, gZ g 8 hs), (a 5, gZ g 512 kw), (a 6, gJ g 512 kv), (a 8, gI g 4096 ((mlE kw hs kv rd sd r q dg tx (ch, wo, wr)).1)), (a 10, gI g 64 rd), (a 30, gI g 128 ((mlE kw hs kv rd sd r q dg tx (ch, wo, wr)).2.1.2)), (a 31, gI g 64 ((mlE kw hs kv rd sd r q dg tx (ch, wo, wr)).2.2.2.1)), (a 32, gI g 8 ((mlE kw hs kv rd sd r q dg tx (ch, wo, wr)).2.2.1)), (a 33, gI g 8 ((mlE kw hs kv rd sd r q dg tx (ch, wo, wr)).2.2.2.2))]) := by
  have hinX5 : ∀ w ∈ wsX50, w ∈ wsX5_makeLeaf := by
    intro w h
    unfold wsX5_makeLeaf
    simp only [List.mem_cons, List.mem_append]
    simp only [h, or_true, true_or]
  refine g_enter (cc := cX5_makeLeaf) (maxL := 7) (ret := none) (own := RX5) (L := [(0, .ref (a 0)), (1, .int (nI sd)), (2, .int (nI r)), (3, .int (bI true)), (4, .int (nI q))]) (by decide) rfl rfl (Nat.le_of_ble_eq_true rfl) rfl ?_
  intro p e s m args below meth c hin0 C
  refine g_aload_n C dX5_makeLeaf_0 rfl 0 rfl ?_
  refine g_iconst (v := nI 0) C dX5_makeLeaf_1 (by decide) ?_
  refine g_put (ty := .int) (w2 := [(a 0, oM a th (bI wk) ro (nI lo) (nI ne) (nI di) (bI ta) (nI ce) (nI fo) (nI 0)), (a 2, gZ g 8 hs), (a 5, gZ g 512 kw), (a 6, gJ g 512 kv), (a 8, gI g 4096 dg), (a 10, gI g 64 rd), (a 30, gI g 128 tx), (a 31, gI g 64 wo), (a 32, gI g 8 ch), (a 33, gI g 8 wr)]) C hinX5 0 rfl rfl 28 (by decide) (by decide +kernel) rfl tyX5 tyX5_ok nmX5 rfl (by decide +kernel) rfl rfl (Nat.le_of_ble_eq_true rfl) rfl dX5_makeLeaf_2 ?_
  refine g_bipush (v := nI 8) C dX5_makeLeaf_5 (by decide) ?_
  refine g_iload_n C dX5_makeLeaf_7 rfl 2 rfl ?_
  refine g_bipush (v := nI 32) C dX5_makeLeaf_8 (by decide) ?_
  refine g_isub_n C dX5_makeLeaf_10 (by omega) ?_
  refine g_imul_n C dX5_makeLeaf_11 ?_
  refine g_istore (L' := [(5, .int (nI (8 * (r - 32)))), (0, .ref (a 0)), (1, .int (nI sd)), (2, .int (nI r)), (3, .int (bI true)), (4, .int (nI q))]) C dX5_makeLeaf_12 (by decide) rfl ?_
  refine g_L (L2 := [(0, .ref (a 0)), (1, .int (nI sd)), (2, .int (nI r)), (3, .int (bI true)), (4, .int (nI q)), (5, .int (nI (8 * (r - 32))))]) [1, 2, 3, 4, 5, 0] rfl ?_
  refine g_up 8 0 (fun _ => True) (fun j => [(0, .ref (a 0)), (1, .int (nI sd)), (2, .int (nI r)), (3, .int (bI true)), (4, .int (nI q)), (5, .int (nI (8 * (r - 32) + j)))]) (fun j => [(a 0, oM a th (bI wk) ro (nI lo) (nI ne) (nI di) (bI ta) (nI ce) (nI fo) (nI ((lfT kw hs kv sd (8 * (r - 32)) tx j).1))), (a 2, gZ g 8 hs), (a 5, gZ g 512 kw), (a 6, gJ g 512 kv), (a 8, gI g 4096 dg), (a 10, gI g 64 rd), (a 30, gI g 128 ((lfT kw hs kv sd (8 * (r - 32)) tx j).2)), (a 31, gI g 64 wo), (a 32, gI g 8 ch), (a 33, gI g 8 wr)]) (by omega) (trivial) ?_ ?_
  · intro hPj
    try dsimp only
    have hb := lfT_le kw hs kv sd (8 * (r - 32)) tx 8
    refine g_iload C dX5_makeLeaf_14 5 rfl ?_
    refine g_bipush (v := nI 8) C dX5_makeLeaf_16 (by decide) ?_
    refine g_iload_n C dX5_makeLeaf_18 rfl 2 rfl ?_
    refine g_bipush (v := nI 32) C dX5_makeLeaf_19 (by decide) ?_
    refine g_isub_n C dX5_makeLeaf_21 (by omega) ?_
    refine g_imul_n C dX5_makeLeaf_22 ?_
    refine g_bipush (v := nI 8) C dX5_makeLeaf_23 (by decide) ?_
    refine g_iadd_n C dX5_makeLeaf_25 ?_
    refine g_icmp_ge_n (tgt := 126) C dX5_makeLeaf_26 (by decide) (by omega) (by omega) (fun c26 => ?_) (fun c26 => ?_)
    · skip
      refine g_aload_n C dX5_makeLeaf_126 rfl 0 rfl ?_
      refine g_iload C dX5_makeLeaf_127 4 rfl ?_
      refine g_callV0 (wr := [(a 2, gZ g 8 hs), (a 5, gZ g 512 kw), (a 6, gJ g 512 kv)]) (w2 := [(a 2, gZ g 8 hs), (a 5, gZ g 512 kw), (a 6, gJ g 512 kv), (a 0, oM a th (bI wk) ro (nI lo) (nI ne) (nI di) (bI ta) (nI ce) (nI fo) (nI (((lfT kw hs kv sd (8 * (r - 32)) tx 8).1) + 1 + zN ((lfT kw hs kv sd (8 * (r - 32)) tx 8).1) + 6 + 1 + 1))), (a 8, gI g 4096 (dgB q dg (dgM rd ((lfT kw hs kv sd (8 * (r - 32)) tx 8).1) ((lfT kw hs kv sd (8 * (r - 32)) tx 8).2) (ch, wo, wr)).1 32)), (a 10, gI g 64 rd), (a 30, gI g 128 (padT ((lfT kw hs kv sd (8 * (r - 32)) tx 8).1) ((lfT kw hs kv sd (8 * (r - 32)) tx 8).2))), (a 31, gI g 64 ((dgM rd ((lfT kw hs kv sd (8 * (r - 32)) tx 8).1) ((lfT kw hs kv sd (8 * (r - 32)) tx 8).2) (ch, wo, wr)).2.1)), (a 32, gI g 8 ((dgM rd ((lfT kw hs kv sd (8 * (r - 32)) tx 8).1) ((lfT kw hs kv sd (8 * (r - 32)) tx 8).2) (ch, wo, wr)).1)), (a 33, gI g 8 ((dgM rd ((lfT kw hs kv sd (8 * (r - 32)) tx 8).1) ((lfT kw hs kv sd (8 * (r - 32)) tx 8).2) (ch, wo, wr)).2.2))]) C (c_X5_digestTo l g a th wk ro lo ne di ta ce fo ((lfT kw hs kv sd (8 * (r - 32)) tx 8).1) dg rd ((lfT kw hs kv sd (8 * (r - 32)) tx 8).2) wo ch wr q (by omega) (by omega)) (cwV 1 C.2.2.2.2.1 gX5_makeLeaf_X5_digestTo rfl rfl rfl (by decide +kernel) ⟨Nat.le_of_ble_eq_true rfl, Nat.le_of_ble_eq_true rfl⟩) 0 rfl rfl rfl [0, 4, 5, 6, 7, 8, 9] [1, 2, 3] rfl rfl rfl rfl rfl (by decide) rfl rfl (Nat.le_of_ble_eq_true rfl) dX5_makeLeaf_129 ⟨Nat.le_of_ble_eq_true rfl, Nat.le_of_ble_eq_true rfl⟩ rfl ?_
      refine g_perm (w2 := [(a 0, oM a th (bI wk) ro (nI lo) (nI ne) (nI di) (bI ta) (nI ce) (nI fo) (nI (((lfT kw hs kv sd (8 * (r - 32)) tx 8).1) + 1 + zN ((lfT kw hs kv sd (8 * (r - 32)) tx 8).1) + 6 + 1 + 1))), (a 2, gZ g 8 hs), (a 5, gZ g 512 kw), (a 6, gJ g 512 kv), (a 8, gI g 4096 (dgB q dg (dgM rd ((lfT kw hs kv sd (8 * (r - 32)) tx 8).1) ((lfT kw hs kv sd (8 * (r - 32)) tx 8).2) (ch, wo, wr)).1 32)), (a 10, gI g 64 rd), (a 30, gI g 128 (padT ((lfT kw hs kv sd (8 * (r - 32)) tx 8).1) ((lfT kw hs kv sd (8 * (r - 32)) tx 8).2))), (a 31, gI g 64 ((dgM rd ((lfT kw hs kv sd (8 * (r - 32)) tx 8).1) ((lfT kw hs kv sd (8 * (r - 32)) tx 8).2) (ch, wo, wr)).2.1)), (a 32, gI g 8 ((dgM rd ((lfT kw hs kv sd (8 * (r - 32)) tx 8).1) ((lfT kw hs kv sd (8 * (r - 32)) tx 8).2) (ch, wo, wr)).1)), (a 33, gI g 8 ((dgM rd ((lfT kw hs kv sd (8 * (r - 32)) tx 8).1) ((lfT kw hs kv sd (8 * (r - 32)) tx 8).2) (ch, wo, wr)).2.2))]) [3, 0, 1, 2, 4, 5, 6, 7, 8, 9] rfl rfl rfl ?_
      refine g_vret C dX5_makeLeaf_132 (by decide) (by decide) ?_
      exact ⟨rfl, rfl⟩
    · skip
      exfalso; omega
  · intro j hlj huj hPj ihj
    try dsimp only at ihj ⊢
    have hb := lfT_le kw hs kv sd (8 * (r - 32)) tx j
    refine g_iload C dX5_makeLeaf_14 5 rfl ?_
    refine g_bipush (v := nI 8) C dX5_makeLeaf_16 (by decide) ?_
    refine g_iload_n C dX5_makeLeaf_18 rfl 2 rfl ?_
    refine g_bipush (v := nI 32) C dX5_makeLeaf_19 (by decide) ?_
    refine g_isub_n C dX5_makeLeaf_21 (by omega) ?_
    refine g_imul_n C dX5_makeLeaf_22 ?_
    refine g_bipush (v := nI 8) C dX5_makeLeaf_23 (by decide) ?_
    refine g_iadd_n C dX5_makeLeaf_25 ?_
    refine g_icmp_ge_n (tgt := 126) C dX5_makeLeaf_26 (by decide) (by omega) (by omega) (fun c26 => ?_) (fun c26 => ?_)
    · skip
      exfalso; omega
    · skip
      refine g_iload_n C dX5_makeLeaf_29 rfl 3 rfl ?_
      refine g_if_eq_b (tgt := 49) C dX5_makeLeaf_30 (by decide) (fun c30 => ?_) (fun c30 => ?_)
      · skip
        exact absurd c30 (by decide)
      · skip
        refine g_aload_n C dX5_makeLeaf_33 rfl 0 rfl ?_
        refine g_get C hinX5 0 rfl rfl 4 (by decide) (by decide +kernel) rfl rfl dX5_makeLeaf_34 ?_
        refine g_sipush (v := nI 256) C dX5_makeLeaf_37 (by decide) ?_
        refine g_iload_n C dX5_makeLeaf_40 rfl 1 rfl ?_
        refine g_imul_n C dX5_makeLeaf_41 ?_
        refine g_iload C dX5_makeLeaf_42 5 rfl ?_
        refine g_iadd_n C dX5_makeLeaf_44 ?_
        refine g_zald C 2 rfl (by omega) (by decide) dX5_makeLeaf_45 ?_
        refine g_goto (tgt := 62) C dX5_makeLeaf_46 (by decide) ?_
        refine g_istore (L' := [(6, .int (bI (kw ((256 * sd) + (8 * (r - 32) + j))))), (0, .ref (a 0)), (1, .int (nI sd)), (2, .int (nI r)), (3, .int (bI true)), (4, .int (nI q)), (5, .int (nI (8 * (r - 32) + j)))]) C dX5_makeLeaf_62 (by decide) rfl ?_
        refine g_iload C dX5_makeLeaf_64 0 rfl ?_
        refine g_if_eq_b (tgt := 120) C dX5_makeLeaf_66 (by decide) (fun c66 => ?_) (fun c66 => ?_)
        · skip
          rw [lfT_f (show qM kw hs sd (8 * (r - 32) + j) = false by simp [qM, c66])] at ihj
          refine g_iinc_n (d := 1) (L' := [(5, .int (nI ((8 * (r - 32) + j) + 1))), (6, .int (bI (kw ((256 * sd) + (8 * (r - 32) + j))))), (0, .ref (a 0)), (1, .int (nI sd)), (2, .int (nI r)), (3, .int (bI true)), (4, .int (nI q))]) C dX5_makeLeaf_120 6 rfl (by decide) (by decide) rfl ?_
          refine g_goto (tgt := 14) C dX5_makeLeaf_123 (by decide) ?_
          refine g_L (L2 := [(0, .ref (a 0)), (1, .int (nI sd)), (2, .int (nI r)), (3, .int (bI true)), (4, .int (nI q)), (5, .int (nI ((8 * (r - 32) + j) + 1)))]) [2, 3, 4, 5, 6, 0] rfl ?_
          exact ihj (trivial)
        · skip
          refine g_aload_n C dX5_makeLeaf_69 rfl 1 rfl ?_
          refine g_iload C dX5_makeLeaf_70 6 rfl ?_
          refine g_bipush (v := nI 64) C dX5_makeLeaf_72 (by decide) ?_
          refine g_idiv_n C dX5_makeLeaf_74 (by omega) (by omega) (by omega) ?_
          refine g_callV1 (wr := [(a 5, gZ g 512 kw), (a 6, gJ g 512 kv), (a 8, gI g 4096 dg), (a 10, gI g 64 rd), (a 30, gI g 128 ((lfT kw hs kv sd (8 * (r - 32)) tx j).2)), (a 31, gI g 64 wo), (a 32, gI g 8 ch), (a 33, gI g 8 wr)]) (w2 := [(a 5, gZ g 512 kw), (a 6, gJ g 512 kv), (a 8, gI g 4096 dg), (a 10, gI g 64 rd), (a 30, gI g 128 ((lfT kw hs kv sd (8 * (r - 32)) tx j).2)), (a 31, gI g 64 wo), (a 32, gI g 8 ch), (a 33, gI g 8 wr), (a 0, oM a th (bI wk) ro (nI lo) (nI ne) (nI di) (bI ta) (nI ce) (nI fo) (nI ((lfT kw hs kv sd (8 * (r - 32)) tx j).1))), (a 2, gZ g 8 hs)]) C (c_X5_counts l g a th wk ro lo ne di ta ce fo ((lfT kw hs kv sd (8 * (r - 32)) tx j).1) hs ((8 * (r - 32) + j) / 64) (by omega)) (cwV 1 C.2.2.2.2.1 gX5_makeLeaf_X5_counts rfl rfl rfl (by decide +kernel) ⟨Nat.le_of_ble_eq_true rfl, Nat.le_of_ble_eq_true rfl⟩) 0 rfl rfl rfl [0, 1] [2, 3, 4, 5, 6, 7, 8, 9] rfl rfl rfl rfl rfl (by decide) rfl rfl (Nat.le_of_ble_eq_true rfl) dX5_makeLeaf_75 ⟨Nat.le_of_ble_eq_true rfl, Nat.le_of_ble_eq_true rfl⟩ rfl ?_
          refine g_if_eq_b (tgt := 120) C dX5_makeLeaf_78 (by decide) (fun c78 => ?_) (fun c78 => ?_)
          · skip
            rw [lfT_f (show qM kw hs sd (8 * (r - 32) + j) = false by rw [qM, c66, c78]; rfl)] at ihj
            refine g_iinc_n (d := 1) (L' := [(5, .int (nI ((8 * (r - 32) + j) + 1))), (6, .int (bI (kw ((256 * sd) + (8 * (r - 32) + j))))), (0, .ref (a 0)), (1, .int (nI sd)), (2, .int (nI r)), (3, .int (bI true)), (4, .int (nI q))]) C dX5_makeLeaf_120 6 rfl (by decide) (by decide) rfl ?_
            refine g_goto (tgt := 14) C dX5_makeLeaf_123 (by decide) ?_
            refine g_L (L2 := [(0, .ref (a 0)), (1, .int (nI sd)), (2, .int (nI r)), (3, .int (bI true)), (4, .int (nI q)), (5, .int (nI ((8 * (r - 32) + j) + 1)))]) [2, 3, 4, 5, 6, 0] rfl ?_
            refine g_perm (w2 := [(a 0, oM a th (bI wk) ro (nI lo) (nI ne) (nI di) (bI ta) (nI ce) (nI fo) (nI ((lfT kw hs kv sd (8 * (r - 32)) tx j).1))), (a 2, gZ g 8 hs), (a 5, gZ g 512 kw), (a 6, gJ g 512 kv), (a 8, gI g 4096 dg), (a 10, gI g 64 rd), (a 30, gI g 128 ((lfT kw hs kv sd (8 * (r - 32)) tx j).2)), (a 31, gI g 64 wo), (a 32, gI g 8 ch), (a 33, gI g 8 wr)]) [8, 9, 0, 1, 2, 3, 4, 5, 6, 7] rfl rfl rfl ?_
            exact ihj (trivial)
          · skip
            rw [lfT_t (show qM kw hs sd (8 * (r - 32) + j) = true by rw [qM, c66, c78]; rfl)] at ihj
            refine g_aload_n C dX5_makeLeaf_81 rfl 1 rfl ?_
            refine g_iload C dX5_makeLeaf_82 6 rfl ?_
            refine g_iload_n C dX5_makeLeaf_84 rfl 4 rfl ?_
            refine g_if_eq_b (tgt := 104) C dX5_makeLeaf_85 (by decide) (fun c85 => ?_) (fun c85 => ?_)
            · skip
              exact absurd c85 (by decide)
            · skip
              refine g_aload_n C dX5_makeLeaf_88 rfl 1 rfl ?_
              refine g_get C hinX5 8 rfl rfl 5 (by decide) (by decide +kernel) rfl rfl dX5_makeLeaf_89 ?_
              refine g_sipush (v := nI 256) C dX5_makeLeaf_92 (by decide) ?_
              refine g_iload_n C dX5_makeLeaf_95 rfl 2 rfl ?_
              refine g_imul_n C dX5_makeLeaf_96 ?_
              refine g_iload C dX5_makeLeaf_97 6 rfl ?_
              refine g_iadd_n C dX5_makeLeaf_99 ?_
              refine g_lald C 1 rfl (by omega) (by decide) dX5_makeLeaf_100 ?_
              refine g_goto (tgt := 117) C dX5_makeLeaf_101 (by decide) ?_
              refine g_callV0 (wr := [(a 5, gZ g 512 kw), (a 6, gJ g 512 kv), (a 8, gI g 4096 dg), (a 10, gI g 64 rd), (a 31, gI g 64 wo), (a 32, gI g 8 ch), (a 33, gI g 8 wr), (a 2, gZ g 8 hs)]) (w2 := [(a 5, gZ g 512 kw), (a 6, gJ g 512 kv), (a 8, gI g 4096 dg), (a 10, gI g 64 rd), (a 31, gI g 64 wo), (a 32, gI g 8 ch), (a 33, gI g 8 wr), (a 2, gZ g 8 hs), (a 0, oM a th (bI wk) ro (nI lo) (nI ne) (nI di) (bI ta) (nI ce) (nI fo) (nI (((lfT kw hs kv sd (8 * (r - 32)) tx j).1) + 1 + 1 + 8))), (a 30, gI g 128 (rowT (kv ((256 * sd) + (8 * (r - 32) + j))) (8 * (r - 32) + j) ((lfT kw hs kv sd (8 * (r - 32)) tx j).1) ((lfT kw hs kv sd (8 * (r - 32)) tx j).2) 8))]) C (c_X5_putRow l g a th wk ro lo ne di ta ce fo ((lfT kw hs kv sd (8 * (r - 32)) tx j).1) ((lfT kw hs kv sd (8 * (r - 32)) tx j).2) (8 * (r - 32) + j) (kv ((256 * sd) + (8 * (r - 32) + j))) (by omega) (by omega)) (cwV 2 C.2.2.2.2.1 gX5_makeLeaf_X5_putRow rfl rfl rfl (by decide +kernel) ⟨Nat.le_of_ble_eq_true rfl, Nat.le_of_ble_eq_true rfl⟩) 8 rfl rfl rfl [8, 4] [0, 1, 2, 3, 5, 6, 7, 9] rfl rfl rfl rfl rfl (by decide) rfl rfl (Nat.le_of_ble_eq_true rfl) dX5_makeLeaf_117 ⟨Nat.le_of_ble_eq_true rfl, Nat.le_of_ble_eq_true rfl⟩ rfl ?_
              refine g_iinc_n (d := 1) (L' := [(5, .int (nI ((8 * (r - 32) + j) + 1))), (6, .int (bI (kw ((256 * sd) + (8 * (r - 32) + j))))), (0, .ref (a 0)), (1, .int (nI sd)), (2, .int (nI r)), (3, .int (bI true)), (4, .int (nI q))]) C dX5_makeLeaf_120 6 rfl (by decide) (by decide) rfl ?_
              refine g_goto (tgt := 14) C dX5_makeLeaf_123 (by decide) ?_
              refine g_L (L2 := [(0, .ref (a 0)), (1, .int (nI sd)), (2, .int (nI r)), (3, .int (bI true)), (4, .int (nI q)), (5, .int (nI ((8 * (r - 32) + j) + 1)))]) [2, 3, 4, 5, 6, 0] rfl ?_
              refine g_perm (w2 := [(a 0, oM a th (bI wk) ro (nI lo) (nI ne) (nI di) (bI ta) (nI ce) (nI fo) (nI (((lfT kw hs kv sd (8 * (r - 32)) tx j).1) + 1 + 1 + 8))), (a 2, gZ g 8 hs), (a 5, gZ g 512 kw), (a 6, gJ g 512 kv), (a 8, gI g 4096 dg), (a 10, gI g 64 rd), (a 30, gI g 128 (rowT (kv ((256 * sd) + (8 * (r - 32) + j))) (8 * (r - 32) + j) ((lfT kw hs kv sd (8 * (r - 32)) tx j).1) ((lfT kw hs kv sd (8 * (r - 32)) tx j).2) 8)), (a 31, gI g 64 wo), (a 32, gI g 8 ch), (a 33, gI g 8 wr)]) [8, 7, 0, 1, 2, 3, 9, 4, 5, 6] rfl rfl rfl ?_
              exact ihj (trivial)
set_option maxHeartbeats 4000000 in
set_option maxRecDepth 100000 in
theorem c_X5_makeLeaf_f (l : Launch) (g : gE) (a : Nat → Nat) (th : Int32) (wk : Bool) (ro : Int32) (lo ne di : Nat) (ta : Bool) (ce fo bt : Nat) (hs : Nat → Bool) (tr : Nat → Bool) (vw : Nat → Int64) (dg : Nat → Int32) (rd : Nat → Int32) (tx : Nat → Int32) (wo : Nat → Int32) (ch : Nat → Int32) (wr : Nat → Int32) (sd r q : Nat) (hs1 : sd < 2) (h1 : 32 ≤ r) (h2 : r < 64) (hq : q + 32 ≤ 4096) : Kt l g yX5_makeLeaf wsX5_makeLeaf 3 71 0 0 [.ref (a 0), .int (nI sd), .int (nI r), .int (bI false), .int (nI q)] [(a 0, oM a th (bI wk) ro (nI lo) (nI ne) (nI di) (bI ta) (nI ce) (nI fo) (nI bt)), (a 2, gZ g 8 hs), (a 3, gZ g 512 tr), (a 4, gJ g 512 vw), (a 8, gI g 4096 dg), (a 10, gI g 64 rd), (a 30, gI g 128 tx), (a 31, gI g 64 wo), (a 32, gI g 8 ch), (a 33, gI g 8 wr)] (kR none [(a 0, oM a th (bI wk) ro (nI lo) (nI ne) (nI di) (bI ta) (nI ce) (nI fo) (nI ((mlE tr hs vw rd sd r q dg tx (ch, wo, wr)).2.1.1))), (a 2, gZ g 8 hs), (a 3, gZ g 512 tr), (a 4, gJ g 512 vw), (a 8, gI g 4096 ((mlE tr hs vw rd sd r q dg tx (ch, wo, wr)).1)), (a 10, gI g 64 rd), (a 30, gI g 128 ((mlE tr hs vw rd sd r q dg tx (ch, wo, wr)).2.1.2)), (a 31, gI g 64 ((mlE tr hs vw rd sd r q dg tx (ch, wo, wr)).2.2.2.1)), (a 32, gI g 8 ((mlE tr hs vw rd sd r q dg tx (ch, wo, wr)).2.2.1)), (a 33, gI g 8 ((mlE tr hs vw rd sd r q dg tx (ch, wo, wr)).2.2.2.2))]) := by
  have hinX5 : ∀ w ∈ wsX50, w ∈ wsX5_makeLeaf := by
    intro w h
    unfold wsX5_makeLeaf
    simp only [List.mem_cons, List.mem_append]
    simp only [h, or_true, true_or]
  refine g_enter (cc := cX5_makeLeaf) (maxL := 7) (ret := none) (own := RX5) (L := [(0, .ref (a 0)), (1, .int (nI sd)), (2, .int (nI r)), (3, .int (bI false)), (4, .int (nI q))]) (by decide) rfl rfl (Nat.le_of_ble_eq_true rfl) rfl ?_
  intro p e s m args below meth c hin0 C
  refine g_aload_n C dX5_makeLeaf_0 rfl 0 rfl ?_
  refine g_iconst (v := nI 0) C dX5_makeLeaf_1 (by decide) ?_
  refine g_put (ty := .int) (w2 := [(a 0, oM a th (bI wk) ro (nI lo) (nI ne) (nI di) (bI ta) (nI ce) (nI fo) (nI 0)), (a 2, gZ g 8 hs), (a 3, gZ g 512 tr), (a 4, gJ g 512 vw), (a 8, gI g 4096 dg), (a 10, gI g 64 rd), (a 30, gI g 128 tx), (a 31, gI g 64 wo), (a 32, gI g 8 ch), (a 33, gI g 8 wr)]) C hinX5 0 rfl rfl 28 (by decide) (by decide +kernel) rfl tyX5 tyX5_ok nmX5 rfl (by decide +kernel) rfl rfl (Nat.le_of_ble_eq_true rfl) rfl dX5_makeLeaf_2 ?_
  refine g_bipush (v := nI 8) C dX5_makeLeaf_5 (by decide) ?_
  refine g_iload_n C dX5_makeLeaf_7 rfl 2 rfl ?_
  refine g_bipush (v := nI 32) C dX5_makeLeaf_8 (by decide) ?_
  refine g_isub_n C dX5_makeLeaf_10 (by omega) ?_
  refine g_imul_n C dX5_makeLeaf_11 ?_
  refine g_istore (L' := [(5, .int (nI (8 * (r - 32)))), (0, .ref (a 0)), (1, .int (nI sd)), (2, .int (nI r)), (3, .int (bI false)), (4, .int (nI q))]) C dX5_makeLeaf_12 (by decide) rfl ?_
  refine g_L (L2 := [(0, .ref (a 0)), (1, .int (nI sd)), (2, .int (nI r)), (3, .int (bI false)), (4, .int (nI q)), (5, .int (nI (8 * (r - 32))))]) [1, 2, 3, 4, 5, 0] rfl ?_
  refine g_up 8 0 (fun _ => True) (fun j => [(0, .ref (a 0)), (1, .int (nI sd)), (2, .int (nI r)), (3, .int (bI false)), (4, .int (nI q)), (5, .int (nI (8 * (r - 32) + j)))]) (fun j => [(a 0, oM a th (bI wk) ro (nI lo) (nI ne) (nI di) (bI ta) (nI ce) (nI fo) (nI ((lfT tr hs vw sd (8 * (r - 32)) tx j).1))), (a 2, gZ g 8 hs), (a 3, gZ g 512 tr), (a 4, gJ g 512 vw), (a 8, gI g 4096 dg), (a 10, gI g 64 rd), (a 30, gI g 128 ((lfT tr hs vw sd (8 * (r - 32)) tx j).2)), (a 31, gI g 64 wo), (a 32, gI g 8 ch), (a 33, gI g 8 wr)]) (by omega) (trivial) ?_ ?_
  · intro hPj
    try dsimp only
    have hb := lfT_le tr hs vw sd (8 * (r - 32)) tx 8
    refine g_iload C dX5_makeLeaf_14 5 rfl ?_
    refine g_bipush (v := nI 8) C dX5_makeLeaf_16 (by decide) ?_
    refine g_iload_n C dX5_makeLeaf_18 rfl 2 rfl ?_
    refine g_bipush (v := nI 32) C dX5_makeLeaf_19 (by decide) ?_
    refine g_isub_n C dX5_makeLeaf_21 (by omega) ?_
    refine g_imul_n C dX5_makeLeaf_22 ?_
    refine g_bipush (v := nI 8) C dX5_makeLeaf_23 (by decide) ?_
    refine g_iadd_n C dX5_makeLeaf_25 ?_
    refine g_icmp_ge_n (tgt := 126) C dX5_makeLeaf_26 (by decide) (by omega) (by omega) (fun c26 => ?_) (fun c26 => ?_)
    · skip
      refine g_aload_n C dX5_makeLeaf_126 rfl 0 rfl ?_
      refine g_iload C dX5_makeLeaf_127 4 rfl ?_
      refine g_callV0 (wr := [(a 2, gZ g 8 hs), (a 3, gZ g 512 tr), (a 4, gJ g 512 vw)]) (w2 := [(a 2, gZ g 8 hs), (a 3, gZ g 512 tr), (a 4, gJ g 512 vw), (a 0, oM a th (bI wk) ro (nI lo) (nI ne) (nI di) (bI ta) (nI ce) (nI fo) (nI (((lfT tr hs vw sd (8 * (r - 32)) tx 8).1) + 1 + zN ((lfT tr hs vw sd (8 * (r - 32)) tx 8).1) + 6 + 1 + 1))), (a 8, gI g 4096 (dgB q dg (dgM rd ((lfT tr hs vw sd (8 * (r - 32)) tx 8).1) ((lfT tr hs vw sd (8 * (r - 32)) tx 8).2) (ch, wo, wr)).1 32)), (a 10, gI g 64 rd), (a 30, gI g 128 (padT ((lfT tr hs vw sd (8 * (r - 32)) tx 8).1) ((lfT tr hs vw sd (8 * (r - 32)) tx 8).2))), (a 31, gI g 64 ((dgM rd ((lfT tr hs vw sd (8 * (r - 32)) tx 8).1) ((lfT tr hs vw sd (8 * (r - 32)) tx 8).2) (ch, wo, wr)).2.1)), (a 32, gI g 8 ((dgM rd ((lfT tr hs vw sd (8 * (r - 32)) tx 8).1) ((lfT tr hs vw sd (8 * (r - 32)) tx 8).2) (ch, wo, wr)).1)), (a 33, gI g 8 ((dgM rd ((lfT tr hs vw sd (8 * (r - 32)) tx 8).1) ((lfT tr hs vw sd (8 * (r - 32)) tx 8).2) (ch, wo, wr)).2.2))]) C (c_X5_digestTo l g a th wk ro lo ne di ta ce fo ((lfT tr hs vw sd (8 * (r - 32)) tx 8).1) dg rd ((lfT tr hs vw sd (8 * (r - 32)) tx 8).2) wo ch wr q (by omega) (by omega)) (cwV 1 C.2.2.2.2.1 gX5_makeLeaf_X5_digestTo rfl rfl rfl (by decide +kernel) ⟨Nat.le_of_ble_eq_true rfl, Nat.le_of_ble_eq_true rfl⟩) 0 rfl rfl rfl [0, 4, 5, 6, 7, 8, 9] [1, 2, 3] rfl rfl rfl rfl rfl (by decide) rfl rfl (Nat.le_of_ble_eq_true rfl) dX5_makeLeaf_129 ⟨Nat.le_of_ble_eq_true rfl, Nat.le_of_ble_eq_true rfl⟩ rfl ?_
      refine g_perm (w2 := [(a 0, oM a th (bI wk) ro (nI lo) (nI ne) (nI di) (bI ta) (nI ce) (nI fo) (nI (((lfT tr hs vw sd (8 * (r - 32)) tx 8).1) + 1 + zN ((lfT tr hs vw sd (8 * (r - 32)) tx 8).1) + 6 + 1 + 1))), (a 2, gZ g 8 hs), (a 3, gZ g 512 tr), (a 4, gJ g 512 vw), (a 8, gI g 4096 (dgB q dg (dgM rd ((lfT tr hs vw sd (8 * (r - 32)) tx 8).1) ((lfT tr hs vw sd (8 * (r - 32)) tx 8).2) (ch, wo, wr)).1 32)), (a 10, gI g 64 rd), (a 30, gI g 128 (padT ((lfT tr hs vw sd (8 * (r - 32)) tx 8).1) ((lfT tr hs vw sd (8 * (r - 32)) tx 8).2))), (a 31, gI g 64 ((dgM rd ((lfT tr hs vw sd (8 * (r - 32)) tx 8).1) ((lfT tr hs vw sd (8 * (r - 32)) tx 8).2) (ch, wo, wr)).2.1)), (a 32, gI g 8 ((dgM rd ((lfT tr hs vw sd (8 * (r - 32)) tx 8).1) ((lfT tr hs vw sd (8 * (r - 32)) tx 8).2) (ch, wo, wr)).1)), (a 33, gI g 8 ((dgM rd ((lfT tr hs vw sd (8 * (r - 32)) tx 8).1) ((lfT tr hs vw sd (8 * (r - 32)) tx 8).2) (ch, wo, wr)).2.2))]) [3, 0, 1, 2, 4, 5, 6, 7, 8, 9] rfl rfl rfl ?_
      refine g_vret C dX5_makeLeaf_132 (by decide) (by decide) ?_
      exact ⟨rfl, rfl⟩
    · skip
      exfalso; omega
  · intro j hlj huj hPj ihj
    try dsimp only at ihj ⊢
    have hb := lfT_le tr hs vw sd (8 * (r - 32)) tx j
    refine g_iload C dX5_makeLeaf_14 5 rfl ?_
    refine g_bipush (v := nI 8) C dX5_makeLeaf_16 (by decide) ?_
    refine g_iload_n C dX5_makeLeaf_18 rfl 2 rfl ?_
    refine g_bipush (v := nI 32) C dX5_makeLeaf_19 (by decide) ?_
    refine g_isub_n C dX5_makeLeaf_21 (by omega) ?_
    refine g_imul_n C dX5_makeLeaf_22 ?_
    refine g_bipush (v := nI 8) C dX5_makeLeaf_23 (by decide) ?_
    refine g_iadd_n C dX5_makeLeaf_25 ?_
    refine g_icmp_ge_n (tgt := 126) C dX5_makeLeaf_26 (by decide) (by omega) (by omega) (fun c26 => ?_) (fun c26 => ?_)
    · skip
      exfalso; omega
    · skip
      refine g_iload_n C dX5_makeLeaf_29 rfl 3 rfl ?_
      refine g_if_eq_b (tgt := 49) C dX5_makeLeaf_30 (by decide) (fun c30 => ?_) (fun c30 => ?_)
      · skip
        refine g_aload_n C dX5_makeLeaf_49 rfl 0 rfl ?_
        refine g_get C hinX5 0 rfl rfl 2 (by decide) (by decide +kernel) rfl rfl dX5_makeLeaf_50 ?_
        refine g_sipush (v := nI 256) C dX5_makeLeaf_53 (by decide) ?_
        refine g_iload_n C dX5_makeLeaf_56 rfl 1 rfl ?_
        refine g_imul_n C dX5_makeLeaf_57 ?_
        refine g_iload C dX5_makeLeaf_58 5 rfl ?_
        refine g_iadd_n C dX5_makeLeaf_60 ?_
        refine g_zald C 2 rfl (by omega) (by decide) dX5_makeLeaf_61 ?_
        refine g_istore (L' := [(6, .int (bI (tr ((256 * sd) + (8 * (r - 32) + j))))), (0, .ref (a 0)), (1, .int (nI sd)), (2, .int (nI r)), (3, .int (bI false)), (4, .int (nI q)), (5, .int (nI (8 * (r - 32) + j)))]) C dX5_makeLeaf_62 (by decide) rfl ?_
        refine g_iload C dX5_makeLeaf_64 0 rfl ?_
        refine g_if_eq_b (tgt := 120) C dX5_makeLeaf_66 (by decide) (fun c66 => ?_) (fun c66 => ?_)
        · skip
          rw [lfT_f (show qM tr hs sd (8 * (r - 32) + j) = false by simp [qM, c66])] at ihj
          refine g_iinc_n (d := 1) (L' := [(5, .int (nI ((8 * (r - 32) + j) + 1))), (6, .int (bI (tr ((256 * sd) + (8 * (r - 32) + j))))), (0, .ref (a 0)), (1, .int (nI sd)), (2, .int (nI r)), (3, .int (bI false)), (4, .int (nI q))]) C dX5_makeLeaf_120 6 rfl (by decide) (by decide) rfl ?_
          refine g_goto (tgt := 14) C dX5_makeLeaf_123 (by decide) ?_
          refine g_L (L2 := [(0, .ref (a 0)), (1, .int (nI sd)), (2, .int (nI r)), (3, .int (bI false)), (4, .int (nI q)), (5, .int (nI ((8 * (r - 32) + j) + 1)))]) [2, 3, 4, 5, 6, 0] rfl ?_
          exact ihj (trivial)
        · skip
          refine g_aload_n C dX5_makeLeaf_69 rfl 1 rfl ?_
          refine g_iload C dX5_makeLeaf_70 6 rfl ?_
          refine g_bipush (v := nI 64) C dX5_makeLeaf_72 (by decide) ?_
          refine g_idiv_n C dX5_makeLeaf_74 (by omega) (by omega) (by omega) ?_
          refine g_callV1 (wr := [(a 3, gZ g 512 tr), (a 4, gJ g 512 vw), (a 8, gI g 4096 dg), (a 10, gI g 64 rd), (a 30, gI g 128 ((lfT tr hs vw sd (8 * (r - 32)) tx j).2)), (a 31, gI g 64 wo), (a 32, gI g 8 ch), (a 33, gI g 8 wr)]) (w2 := [(a 3, gZ g 512 tr), (a 4, gJ g 512 vw), (a 8, gI g 4096 dg), (a 10, gI g 64 rd), (a 30, gI g 128 ((lfT tr hs vw sd (8 * (r - 32)) tx j).2)), (a 31, gI g 64 wo), (a 32, gI g 8 ch), (a 33, gI g 8 wr), (a 0, oM a th (bI wk) ro (nI lo) (nI ne) (nI di) (bI ta) (nI ce) (nI fo) (nI ((lfT tr hs vw sd (8 * (r - 32)) tx j).1))), (a 2, gZ g 8 hs)]) C (c_X5_counts l g a th wk ro lo ne di ta ce fo ((lfT tr hs vw sd (8 * (r - 32)) tx j).1) hs ((8 * (r - 32) + j) / 64) (by omega)) (cwV 1 C.2.2.2.2.1 gX5_makeLeaf_X5_counts rfl rfl rfl (by decide +kernel) ⟨Nat.le_of_ble_eq_true rfl, Nat.le_of_ble_eq_true rfl⟩) 0 rfl rfl rfl [0, 1] [2, 3, 4, 5, 6, 7, 8, 9] rfl rfl rfl rfl rfl (by decide) rfl rfl (Nat.le_of_ble_eq_true rfl) dX5_makeLeaf_75 ⟨Nat.le_of_ble_eq_true rfl, Nat.le_of_ble_eq_true rfl⟩ rfl ?_
          refine g_if_eq_b (tgt := 120) C dX5_makeLeaf_78 (by decide) (fun c78 => ?_) (fun c78 => ?_)
          · skip
            rw [lfT_f (show qM tr hs sd (8 * (r - 32) + j) = false by rw [qM, c66, c78]; rfl)] at ihj
            refine g_iinc_n (d := 1) (L' := [(5, .int (nI ((8 * (r - 32) + j) + 1))), (6, .int (bI (tr ((256 * sd) + (8 * (r - 32) + j))))), (0, .ref (a 0)), (1, .int (nI sd)), (2, .int (nI r)), (3, .int (bI false)), (4, .int (nI q))]) C dX5_makeLeaf_120 6 rfl (by decide) (by decide) rfl ?_
            refine g_goto (tgt := 14) C dX5_makeLeaf_123 (by decide) ?_
            refine g_L (L2 := [(0, .ref (a 0)), (1, .int (nI sd)), (2, .int (nI r)), (3, .int (bI false)), (4, .int (nI q)), (5, .int (nI ((8 * (r - 32) + j) + 1)))]) [2, 3, 4, 5, 6, 0] rfl ?_
            refine g_perm (w2 := [(a 0, oM a th (bI wk) ro (nI lo) (nI ne) (nI di) (bI ta) (nI ce) (nI fo) (nI ((lfT tr hs vw sd (8 * (r - 32)) tx j).1))), (a 2, gZ g 8 hs), (a 3, gZ g 512 tr), (a 4, gJ g 512 vw), (a 8, gI g 4096 dg), (a 10, gI g 64 rd), (a 30, gI g 128 ((lfT tr hs vw sd (8 * (r - 32)) tx j).2)), (a 31, gI g 64 wo), (a 32, gI g 8 ch), (a 33, gI g 8 wr)]) [8, 9, 0, 1, 2, 3, 4, 5, 6, 7] rfl rfl rfl ?_
            exact ihj (trivial)
          · skip
            rw [lfT_t (show qM tr hs sd (8 * (r - 32) + j) = true by rw [qM, c66, c78]; rfl)] at ihj
            refine g_aload_n C dX5_makeLeaf_81 rfl 1 rfl ?_
            refine g_iload C dX5_makeLeaf_82 6 rfl ?_
            refine g_iload_n C dX5_makeLeaf_84 rfl 4 rfl ?_
            refine g_if_eq_b (tgt := 104) C dX5_makeLeaf_85 (by decide) (fun c85 => ?_) (fun c85 => ?_)
            · skip
              refine g_aload_n C dX5_makeLeaf_104 rfl 1 rfl ?_
              refine g_get C hinX5 8 rfl rfl 3 (by decide) (by decide +kernel) rfl rfl dX5_makeLeaf_105 ?_
              refine g_sipush (v := nI 256) C dX5_makeLeaf_108 (by decide) ?_
              refine g_iload_n C dX5_makeLeaf_111 rfl 2 rfl ?_
              refine g_imul_n C dX5_makeLeaf_112 ?_
              refine g_iload C dX5_makeLeaf_113 6 rfl ?_
              refine g_iadd_n C dX5_makeLeaf_115 ?_
              refine g_lald C 1 rfl (by omega) (by decide) dX5_makeLeaf_116 ?_
              refine g_callV0 (wr := [(a 3, gZ g 512 tr), (a 4, gJ g 512 vw), (a 8, gI g 4096 dg), (a 10, gI g 64 rd), (a 31, gI g 64 wo), (a 32, gI g 8 ch), (a 33, gI g 8 wr), (a 2, gZ g 8 hs)]) (w2 := [(a 3, gZ g 512 tr), (a 4, gJ g 512 vw), (a 8, gI g 4096 dg), (a 10, gI g 64 rd), (a 31, gI g 64 wo), (a 32, gI g 8 ch), (a 33, gI g 8 wr), (a 2, gZ g 8 hs), (a 0, oM a th (bI wk) ro (nI lo) (nI ne) (nI di) (bI ta) (nI ce) (nI fo) (nI (((lfT tr hs vw sd (8 * (r - 32)) tx j).1) + 1 + 1 + 8))), (a 30, gI g 128 (rowT (vw ((256 * sd) + (8 * (r - 32) + j))) (8 * (r - 32) + j) ((lfT tr hs vw sd (8 * (r - 32)) tx j).1) ((lfT tr hs vw sd (8 * (r - 32)) tx j).2) 8))]) C (c_X5_putRow l g a th wk ro lo ne di ta ce fo ((lfT tr hs vw sd (8 * (r - 32)) tx j).1) ((lfT tr hs vw sd (8 * (r - 32)) tx j).2) (8 * (r - 32) + j) (vw ((256 * sd) + (8 * (r - 32) + j))) (by omega) (by omega)) (cwV 2 C.2.2.2.2.1 gX5_makeLeaf_X5_putRow rfl rfl rfl (by decide +kernel) ⟨Nat.le_of_ble_eq_true rfl, Nat.le_of_ble_eq_true rfl⟩) 8 rfl rfl rfl [8, 4] [0, 1, 2, 3, 5, 6, 7, 9] rfl rfl rfl rfl rfl (by decide) rfl rfl (Nat.le_of_ble_eq_true rfl) dX5_makeLeaf_117 ⟨Nat.le_of_ble_eq_true rfl, Nat.le_of_ble_eq_true rfl⟩ rfl ?_
              refine g_iinc_n (d := 1) (L' := [(5, .int (nI ((8 * (r - 32) + j) + 1))), (6, .int (bI (tr ((256 * sd) + (8 * (r - 32) + j))))), (0, .ref (a 0)), (1, .int (nI sd)), (2, .int (nI r)), (3, .int (bI false)), (4, .int (nI q))]) C dX5_makeLeaf_120 6 rfl (by decide) (by decide) rfl ?_
              refine g_goto (tgt := 14) C dX5_makeLeaf_123 (by decide) ?_
              refine g_L (L2 := [(0, .ref (a 0)), (1, .int (nI sd)), (2, .int (nI r)), (3, .int (bI false)), (4, .int (nI q)), (5, .int (nI ((8 * (r - 32) + j) + 1)))]) [2, 3, 4, 5, 6, 0] rfl ?_
              refine g_perm (w2 := [(a 0, oM a th (bI wk) ro (nI lo) (nI ne) (nI di) (bI ta) (nI ce) (nI fo) (nI (((lfT tr hs vw sd (8 * (r - 32)) tx j).1) + 1 + 1 + 8))), (a 2, gZ g 8 hs), (a 3, gZ g 512 tr), (a 4, gJ g 512 vw), (a 8, gI g 4096 dg), (a 10, gI g 64 rd), (a 30, gI g 128 (rowT (vw ((256 * sd) + (8 * (r - 32) + j))) (8 * (r - 32) + j) ((lfT tr hs vw sd (8 * (r - 32)) tx j).1) ((lfT tr hs vw sd (8 * (r - 32)) tx j).2) 8)), (a 31, gI g 64 wo), (a 32, gI g 8 ch), (a 33, gI g 8 wr)]) [8, 7, 0, 1, 2, 3, 9, 4, 5, 6] rfl rfl rfl ?_
              exact ihj (trivial)
            · skip
              exact absurd c85 (by decide)
      · skip
        exact absurd c30 (by decide)
set_option maxHeartbeats 4000000 in
set_option maxRecDepth 100000 in
theorem c_X5_make (l : Launch) (g : gE) (a : Nat → Nat) (th : Int32) (wk : Bool) (ro : Int32) (lo ne di : Nat) (ta : Bool) (ce fo bt : Nat) (hs : Nat → Bool) (kw : Nat → Bool) (kv : Nat → Int64) (dg : Nat → Int32) (sm : Nat → Int32) (rd : Nat → Int32) (tx : Nat → Int32) (wo : Nat → Int32) (ch : Nat → Int32) (wr : Nat → Int32) (sd r : Nat) (hs1 : sd < 2) (h1 : 1 ≤ r) (h2 : r < 64) : Kt l g yX5_make wsX5_make 4 97 0 0 [.ref (a 0), .int (nI sd), .int (nI r)] [(a 0, oM a th (bI wk) ro (nI lo) (nI ne) (nI di) (bI ta) (nI ce) (nI fo) (nI bt)), (a 2, gZ g 8 hs), (a 5, gZ g 512 kw), (a 6, gJ g 512 kv), (a 8, gI g 4096 dg), (a 9, gI g 128 sm), (a 10, gI g 64 rd), (a 30, gI g 128 tx), (a 31, gI g 64 wo), (a 32, gI g 8 ch), (a 33, gI g 8 wr)] (kR none [(a 0, oM a th (bI wk) ro (nI lo) (nI ne) (nI di) (bI ta) (nI ce) (nI fo) (nI ((mkE kw hs kv rd sd r (dg, sm, (bt, tx), (ch, wo, wr))).2.2.1.1))), (a 2, gZ g 8 hs), (a 5, gZ g 512 kw), (a 6, gJ g 512 kv), (a 8, gI g 4096 ((mkE kw hs kv rd sd r (dg, sm, (bt, tx), (ch, wo, wr))).1)), (a 9, gI g 128 ((mkE kw hs kv rd sd r (dg, sm, (bt, tx), (ch, wo, wr))).2.1)), (a 10, gI g 64 rd), (a 30, gI g 128 ((mkE kw hs kv rd sd r (dg, sm, (bt, tx), (ch, wo, wr))).2.2.1.2)), (a 31, gI g 64 ((mkE kw hs kv rd sd r (dg, sm, (bt, tx), (ch, wo, wr))).2.2.2.2.1)), (a 32, gI g 8 ((mkE kw hs kv rd sd r (dg, sm, (bt, tx), (ch, wo, wr))).2.2.2.1)), (a 33, gI g 8 ((mkE kw hs kv rd sd r (dg, sm, (bt, tx), (ch, wo, wr))).2.2.2.2.2))]) := by
  have hinX5 : ∀ w ∈ wsX50, w ∈ wsX5_make := by
    intro w h
    unfold wsX5_make
    simp only [List.mem_cons, List.mem_append]
    simp only [h, or_true, true_or]
  refine g_enter (cc := cX5_make) (maxL := 7) (ret := none) (own := RX5) (L := [(0, .ref (a 0)), (1, .int (nI sd)), (2, .int (nI r))]) (by decide) rfl rfl (Nat.le_of_ble_eq_true rfl) rfl ?_
  intro p e s m args below meth c hin0 C
  have hm := mnN_lt kw hs sd r h1 h2
  refine g_bipush (v := nI 64) C dX5_make_0 (by decide) ?_
  refine g_iload_n C dX5_make_2 rfl 1 rfl ?_
  refine g_imul_n C dX5_make_3 ?_
  refine g_iload_n C dX5_make_4 rfl 2 rfl ?_
  refine g_iadd_n C dX5_make_5 ?_
  refine g_istore_n (L' := [(3, .int (nI ((64 * sd) + r))), (0, .ref (a 0)), (1, .int (nI sd)), (2, .int (nI r))]) C dX5_make_6 rfl (by decide) rfl ?_
  refine g_aload_n C dX5_make_7 rfl 1 rfl ?_
  refine g_get C hinX5 0 rfl rfl 8 (by decide) (by decide +kernel) rfl rfl dX5_make_8 ?_
  refine g_iload_n C dX5_make_11 rfl 0 rfl ?_
  refine g_iconst (v := nI 0) C dX5_make_12 (by decide) ?_
  refine g_iast (w2 := [(a 0, oM a th (bI wk) ro (nI lo) (nI ne) (nI di) (bI ta) (nI ce) (nI fo) (nI bt)), (a 2, gZ g 8 hs), (a 5, gZ g 512 kw), (a 6, gJ g 512 kv), (a 8, gI g 4096 dg), (a 9, gI g 128 (va_up sm ((64 * sd) + r) (nI 0))), (a 10, gI g 64 rd), (a 30, gI g 128 tx), (a 31, gI g 64 wo), (a 32, gI g 8 ch), (a 33, gI g 8 wr)]) C 5 rfl (by omega) (by decide) rfl dX5_make_13 ?_
  refine g_iconst (v := nI 0) C dX5_make_14 (by decide) ?_
  refine g_istore (L' := [(4, .int (nI 0)), (3, .int (nI ((64 * sd) + r))), (0, .ref (a 0)), (1, .int (nI sd)), (2, .int (nI r))]) C dX5_make_15 (by decide) rfl ?_
  refine g_up 32 0 (fun _ => True) (fun j => [(4, .int (nI j)), (3, .int (nI ((64 * sd) + r))), (0, .ref (a 0)), (1, .int (nI sd)), (2, .int (nI r))]) (fun j => [(a 0, oM a th (bI wk) ro (nI lo) (nI ne) (nI di) (bI ta) (nI ce) (nI fo) (nI bt)), (a 2, gZ g 8 hs), (a 5, gZ g 512 kw), (a 6, gJ g 512 kv), (a 8, gI g 4096 (z32 dg (64 * sd + r) j)), (a 9, gI g 128 (va_up sm ((64 * sd) + r) (nI 0))), (a 10, gI g 64 rd), (a 30, gI g 128 tx), (a 31, gI g 64 wo), (a 32, gI g 8 ch), (a 33, gI g 8 wr)]) (by omega) (trivial) ?_ ?_
  · intro hPj
    try dsimp only
    refine g_iload C dX5_make_17 0 rfl ?_
    refine g_bipush (v := nI 32) C dX5_make_19 (by decide) ?_
    refine g_icmp_ge_n (tgt := 43) C dX5_make_21 (by decide) (by omega) (by omega) (fun c21 => ?_) (fun c21 => ?_)
    · skip
      refine g_aload_n C dX5_make_43 rfl 2 rfl ?_
      refine g_iload_n C dX5_make_44 rfl 3 rfl ?_
      refine g_iload_n C dX5_make_45 rfl 4 rfl ?_
      refine g_iconst (v := nI 1) C dX5_make_46 (by decide) ?_
      refine g_st (st2 := [.int (bI true), .int (nI r), .int (nI sd), .ref (a 0)]) rfl ?_
      refine g_callV1 (wr := [(a 6, gJ g 512 kv), (a 8, gI g 4096 (z32 dg (64 * sd + r) 32)), (a 9, gI g 128 (va_up sm ((64 * sd) + r) (nI 0))), (a 10, gI g 64 rd), (a 30, gI g 128 tx), (a 31, gI g 64 wo), (a 32, gI g 8 ch), (a 33, gI g 8 wr)]) (w2 := [(a 6, gJ g 512 kv), (a 8, gI g 4096 (z32 dg (64 * sd + r) 32)), (a 9, gI g 128 (va_up sm ((64 * sd) + r) (nI 0))), (a 10, gI g 64 rd), (a 30, gI g 128 tx), (a 31, gI g 64 wo), (a 32, gI g 8 ch), (a 33, gI g 8 wr), (a 0, oM a th (bI wk) ro (nI lo) (nI ne) (nI di) (bI ta) (nI ce) (nI fo) (nI bt)), (a 2, gZ g 8 hs), (a 5, gZ g 512 kw)]) C (c_X5_many_t l g a th wk ro lo ne di ta ce fo bt hs kw sd r (by omega) (by omega) (by omega)) (cwV 3 C.2.2.2.2.1 gX5_make_X5_many rfl rfl rfl (by decide +kernel) ⟨Nat.le_of_ble_eq_true rfl, Nat.le_of_ble_eq_true rfl⟩) 0 rfl rfl rfl [0, 1, 2] [3, 4, 5, 6, 7, 8, 9, 10] rfl rfl rfl rfl rfl (by decide) rfl rfl (Nat.le_of_ble_eq_true rfl) dX5_make_47 ⟨Nat.le_of_ble_eq_true rfl, Nat.le_of_ble_eq_true rfl⟩ rfl ?_
      refine g_if_ne_n (tgt := 54) C dX5_make_50 (by decide) (by omega) (fun c50 => ?_) (fun c50 => ?_)
      · skip
        refine g_iload_n C dX5_make_54 rfl 4 rfl ?_
        refine g_bipush (v := nI 32) C dX5_make_55 (by decide) ?_
        refine g_icmp_lt_n (tgt := 96) C dX5_make_57 (by decide) (by omega) (by omega) (fun c57 => ?_) (fun c57 => ?_)
        · skip
          refine g_aload_n C dX5_make_96 rfl 2 rfl ?_
          refine g_iconst (v := nI 0) C dX5_make_97 (by decide) ?_
          refine g_put (ty := .int) (w2 := [(a 6, gJ g 512 kv), (a 8, gI g 4096 (z32 dg (64 * sd + r) 32)), (a 9, gI g 128 (va_up sm ((64 * sd) + r) (nI 0))), (a 10, gI g 64 rd), (a 30, gI g 128 tx), (a 31, gI g 64 wo), (a 32, gI g 8 ch), (a 33, gI g 8 wr), (a 0, oM a th (bI wk) ro (nI lo) (nI ne) (nI di) (bI ta) (nI ce) (nI fo) (nI 0)), (a 2, gZ g 8 hs), (a 5, gZ g 512 kw)]) C hinX5 8 rfl rfl 28 (by decide) (by decide +kernel) rfl tyX5 tyX5_ok nmX5 rfl (by decide +kernel) rfl rfl (Nat.le_of_ble_eq_true rfl) rfl dX5_make_98 ?_
          refine g_bipush (v := nI 64) C dX5_make_101 (by decide) ?_
          refine g_iload_n C dX5_make_103 rfl 3 rfl ?_
          refine g_imul_n C dX5_make_104 ?_
          refine g_iconst (v := nI 2) C dX5_make_105 (by decide) ?_
          refine g_iload_n C dX5_make_106 rfl 4 rfl ?_
          refine g_imul_n C dX5_make_107 ?_
          refine g_iadd_n C dX5_make_108 ?_
          refine g_istore (L' := [(4, .int (nI ((64 * sd) + (2 * r)))), (3, .int (nI ((64 * sd) + r))), (0, .ref (a 0)), (1, .int (nI sd)), (2, .int (nI r))]) C dX5_make_109 (by decide) rfl ?_
          refine g_iconst (v := nI 0) C dX5_make_111 (by decide) ?_
          refine g_istore (L' := [(5, .int (nI 0)), (4, .int (nI ((64 * sd) + (2 * r)))), (3, .int (nI ((64 * sd) + r))), (0, .ref (a 0)), (1, .int (nI sd)), (2, .int (nI r))]) C dX5_make_112 (by decide) rfl ?_
          refine g_up 64 0 (fun _ => True) (fun j => [(5, .int (nI j)), (4, .int (nI ((64 * sd) + (2 * r)))), (3, .int (nI ((64 * sd) + r))), (0, .ref (a 0)), (1, .int (nI sd)), (2, .int (nI r))]) (fun j => [(a 6, gJ g 512 kv), (a 8, gI g 4096 (z32 dg (64 * sd + r) 32)), (a 9, gI g 128 (va_up sm ((64 * sd) + r) (nI 0))), (a 10, gI g 64 rd), (a 30, gI g 128 (inT (z32 dg (64 * sd + r) 32) (64 * sd + 2 * r) tx j)), (a 31, gI g 64 wo), (a 32, gI g 8 ch), (a 33, gI g 8 wr), (a 0, oM a th (bI wk) ro (nI lo) (nI ne) (nI di) (bI ta) (nI ce) (nI fo) (nI j)), (a 2, gZ g 8 hs), (a 5, gZ g 512 kw)]) (by omega) (trivial) ?_ ?_
          · intro hPj
            try dsimp only
            refine g_iload C dX5_make_114 0 rfl ?_
            refine g_bipush (v := nI 64) C dX5_make_116 (by decide) ?_
            refine g_icmp_ge_n (tgt := 144) C dX5_make_118 (by decide) (by omega) (by omega) (fun c118 => ?_) (fun c118 => ?_)
            · skip
              refine g_aload_n C dX5_make_144 rfl 3 rfl ?_
              refine g_bipush (v := nI 32) C dX5_make_145 (by decide) ?_
              refine g_iload_n C dX5_make_147 rfl 2 rfl ?_
              refine g_imul_n C dX5_make_148 ?_
              refine g_callV0 (wr := [(a 6, gJ g 512 kv), (a 9, gI g 128 (va_up sm ((64 * sd) + r) (nI 0))), (a 2, gZ g 8 hs), (a 5, gZ g 512 kw)]) (w2 := [(a 6, gJ g 512 kv), (a 9, gI g 128 (va_up sm ((64 * sd) + r) (nI 0))), (a 2, gZ g 8 hs), (a 5, gZ g 512 kw), (a 0, oM a th (bI wk) ro (nI lo) (nI ne) (nI di) (bI ta) (nI ce) (nI fo) (nI (64 + 1 + zN 64 + 6 + 1 + 1))), (a 8, gI g 4096 (dgB (32 * ((64 * sd) + r)) (z32 dg (64 * sd + r) 32) (dgM rd 64 (inT (z32 dg (64 * sd + r) 32) (64 * sd + 2 * r) tx 64) (ch, wo, wr)).1 32)), (a 10, gI g 64 rd), (a 30, gI g 128 (padT 64 (inT (z32 dg (64 * sd + r) 32) (64 * sd + 2 * r) tx 64))), (a 31, gI g 64 ((dgM rd 64 (inT (z32 dg (64 * sd + r) 32) (64 * sd + 2 * r) tx 64) (ch, wo, wr)).2.1)), (a 32, gI g 8 ((dgM rd 64 (inT (z32 dg (64 * sd + r) 32) (64 * sd + 2 * r) tx 64) (ch, wo, wr)).1)), (a 33, gI g 8 ((dgM rd 64 (inT (z32 dg (64 * sd + r) 32) (64 * sd + 2 * r) tx 64) (ch, wo, wr)).2.2))]) C (c_X5_digestTo l g a th wk ro lo ne di ta ce fo 64 (z32 dg (64 * sd + r) 32) rd (inT (z32 dg (64 * sd + r) 32) (64 * sd + 2 * r) tx 64) wo ch wr (32 * ((64 * sd) + r)) (by omega) (by omega)) (cwV 1 C.2.2.2.2.1 gX5_make_X5_digestTo rfl rfl rfl (by decide +kernel) ⟨Nat.le_of_ble_eq_true rfl, Nat.le_of_ble_eq_true rfl⟩) 8 rfl rfl rfl [8, 1, 3, 4, 5, 6, 7] [0, 2, 9, 10] rfl rfl rfl rfl rfl (by decide) rfl rfl (Nat.le_of_ble_eq_true rfl) dX5_make_149 ⟨Nat.le_of_ble_eq_true rfl, Nat.le_of_ble_eq_true rfl⟩ rfl ?_
              refine g_aload_n C dX5_make_152 rfl 3 rfl ?_
              refine g_iconst (v := nI 0) C dX5_make_153 (by decide) ?_
              refine g_put (ty := .int) (w2 := [(a 6, gJ g 512 kv), (a 9, gI g 128 (va_up sm ((64 * sd) + r) (nI 0))), (a 2, gZ g 8 hs), (a 5, gZ g 512 kw), (a 0, oM a th (bI wk) ro (nI lo) (nI ne) (nI di) (bI ta) (nI ce) (nI fo) (nI 0)), (a 8, gI g 4096 (dgB (32 * ((64 * sd) + r)) (z32 dg (64 * sd + r) 32) (dgM rd 64 (inT (z32 dg (64 * sd + r) 32) (64 * sd + 2 * r) tx 64) (ch, wo, wr)).1 32)), (a 10, gI g 64 rd), (a 30, gI g 128 (padT 64 (inT (z32 dg (64 * sd + r) 32) (64 * sd + 2 * r) tx 64))), (a 31, gI g 64 ((dgM rd 64 (inT (z32 dg (64 * sd + r) 32) (64 * sd + 2 * r) tx 64) (ch, wo, wr)).2.1)), (a 32, gI g 8 ((dgM rd 64 (inT (z32 dg (64 * sd + r) 32) (64 * sd + 2 * r) tx 64) (ch, wo, wr)).1)), (a 33, gI g 8 ((dgM rd 64 (inT (z32 dg (64 * sd + r) 32) (64 * sd + 2 * r) tx 64) (ch, wo, wr)).2.2))]) C hinX5 4 rfl rfl 28 (by decide) (by decide +kernel) rfl tyX5 tyX5_ok nmX5 rfl (by decide +kernel) rfl rfl (Nat.le_of_ble_eq_true rfl) rfl dX5_make_154 ?_
              refine g_iload C dX5_make_157 1 rfl ?_
              refine g_istore (L' := [(5, .int (nI ((64 * sd) + (2 * r)))), (4, .int (nI ((64 * sd) + (2 * r)))), (3, .int (nI ((64 * sd) + r))), (0, .ref (a 0)), (1, .int (nI sd)), (2, .int (nI r))]) C dX5_make_159 (by decide) rfl ?_
              refine g_L (L2 := [(0, .ref (a 0)), (1, .int (nI sd)), (2, .int (nI r)), (3, .int (nI ((64 * sd) + r))), (4, .int (nI ((64 * sd) + (2 * r)))), (5, .int (nI ((64 * sd) + (2 * r))))]) [3, 4, 5, 2, 1, 0] rfl ?_
              refine g_up 2 0 (fun _ => True) (fun j => [(0, .ref (a 0)), (1, .int (nI sd)), (2, .int (nI r)), (3, .int (nI ((64 * sd) + r))), (4, .int (nI ((64 * sd) + (2 * r)))), (5, .int (nI (64 * sd + 2 * r + j)))]) (fun j => [(a 6, gJ g 512 kv), (a 9, gI g 128 (va_up sm ((64 * sd) + r) (nI 0))), (a 2, gZ g 8 hs), (a 5, gZ g 512 kw), (a 0, oM a th (bI wk) ro (nI lo) (nI ne) (nI di) (bI ta) (nI ce) (nI fo) (nI (4 * j))), (a 8, gI g 4096 (dgB (32 * ((64 * sd) + r)) (z32 dg (64 * sd + r) 32) (dgM rd 64 (inT (z32 dg (64 * sd + r) 32) (64 * sd + 2 * r) tx 64) (ch, wo, wr)).1 32)), (a 10, gI g 64 rd), (a 30, gI g 128 (smT (va_up sm (64 * sd + r) (nI 0)) (64 * sd + 2 * r) (padT 64 (miT sd r (dg, sm, (bt, tx), (ch, wo, wr)))) j)), (a 31, gI g 64 ((dgM rd 64 (inT (z32 dg (64 * sd + r) 32) (64 * sd + 2 * r) tx 64) (ch, wo, wr)).2.1)), (a 32, gI g 8 ((dgM rd 64 (inT (z32 dg (64 * sd + r) 32) (64 * sd + 2 * r) tx 64) (ch, wo, wr)).1)), (a 33, gI g 8 ((dgM rd 64 (inT (z32 dg (64 * sd + r) 32) (64 * sd + 2 * r) tx 64) (ch, wo, wr)).2.2))]) (by omega) (trivial) ?_ ?_
              · intro hPj
                try dsimp only
                refine g_iload C dX5_make_161 5 rfl ?_
                refine g_iload C dX5_make_163 4 rfl ?_
                refine g_iconst (v := nI 2) C dX5_make_165 (by decide) ?_
                refine g_iadd_n C dX5_make_166 ?_
                refine g_icmp_ge_n (tgt := 205) C dX5_make_167 (by decide) (by omega) (by omega) (fun c167 => ?_) (fun c167 => ?_)
                · skip
                  refine g_aload_n C dX5_make_205 rfl 0 rfl ?_
                  refine g_get C hinX5 4 rfl rfl 8 (by decide) (by decide +kernel) rfl rfl dX5_make_206 ?_
                  refine g_iload_n C dX5_make_209 rfl 3 rfl ?_
                  refine g_aload_n C dX5_make_210 rfl 0 rfl ?_
                  refine g_callV1 (wr := [(a 6, gJ g 512 kv), (a 9, gI g 128 (va_up sm ((64 * sd) + r) (nI 0))), (a 2, gZ g 8 hs), (a 5, gZ g 512 kw), (a 8, gI g 4096 (dgB (32 * ((64 * sd) + r)) (z32 dg (64 * sd + r) 32) (dgM rd 64 (inT (z32 dg (64 * sd + r) 32) (64 * sd + 2 * r) tx 64) (ch, wo, wr)).1 32)), (a 10, gI g 64 rd), (a 31, gI g 64 ((dgM rd 64 (inT (z32 dg (64 * sd + r) 32) (64 * sd + 2 * r) tx 64) (ch, wo, wr)).2.1)), (a 32, gI g 8 ((dgM rd 64 (inT (z32 dg (64 * sd + r) 32) (64 * sd + 2 * r) tx 64) (ch, wo, wr)).1)), (a 33, gI g 8 ((dgM rd 64 (inT (z32 dg (64 * sd + r) 32) (64 * sd + 2 * r) tx 64) (ch, wo, wr)).2.2))]) (w2 := [(a 6, gJ g 512 kv), (a 9, gI g 128 (va_up sm ((64 * sd) + r) (nI 0))), (a 2, gZ g 8 hs), (a 5, gZ g 512 kw), (a 8, gI g 4096 (dgB (32 * ((64 * sd) + r)) (z32 dg (64 * sd + r) 32) (dgM rd 64 (inT (z32 dg (64 * sd + r) 32) (64 * sd + 2 * r) tx 64) (ch, wo, wr)).1 32)), (a 10, gI g 64 rd), (a 31, gI g 64 ((dgM rd 64 (inT (z32 dg (64 * sd + r) 32) (64 * sd + 2 * r) tx 64) (ch, wo, wr)).2.1)), (a 32, gI g 8 ((dgM rd 64 (inT (z32 dg (64 * sd + r) 32) (64 * sd + 2 * r) tx 64) (ch, wo, wr)).1)), (a 33, gI g 8 ((dgM rd 64 (inT (z32 dg (64 * sd + r) 32) (64 * sd + 2 * r) tx 64) (ch, wo, wr)).2.2)), (a 0, oM a th (bI wk) ro (nI lo) (nI ne) (nI di) (bI ta) (nI ce) (nI fo) (nI (4 * 2))), (a 30, gI g 128 (smT (va_up sm (64 * sd + r) (nI 0)) (64 * sd + 2 * r) (padT 64 (miT sd r (dg, sm, (bt, tx), (ch, wo, wr)))) 2))]) C (c_X5_fold l g a th wk ro lo ne di ta ce fo (4 * 2) (smT (va_up sm (64 * sd + r) (nI 0)) (64 * sd + 2 * r) (padT 64 (miT sd r (dg, sm, (bt, tx), (ch, wo, wr)))) 2) (by omega)) (cwV 0 C.2.2.2.2.1 gX5_make_X5_fold rfl rfl rfl (by decide +kernel) ⟨Nat.le_of_ble_eq_true rfl, Nat.le_of_ble_eq_true rfl⟩) 4 rfl rfl rfl [4, 7] [0, 1, 2, 3, 5, 6, 8, 9, 10] rfl rfl rfl rfl rfl (by decide) rfl rfl (Nat.le_of_ble_eq_true rfl) dX5_make_211 ⟨Nat.le_of_ble_eq_true rfl, Nat.le_of_ble_eq_true rfl⟩ rfl ?_
                  refine g_iast (w2 := [(a 6, gJ g 512 kv), (a 9, gI g 128 (va_up (va_up sm ((64 * sd) + r) (nI 0)) ((64 * sd) + r) (fldT (smT (va_up sm (64 * sd + r) (nI 0)) (64 * sd + 2 * r) (padT 64 (miT sd r (dg, sm, (bt, tx), (ch, wo, wr)))) 2) (4 * 2)))), (a 2, gZ g 8 hs), (a 5, gZ g 512 kw), (a 8, gI g 4096 (dgB (32 * ((64 * sd) + r)) (z32 dg (64 * sd + r) 32) (dgM rd 64 (inT (z32 dg (64 * sd + r) 32) (64 * sd + 2 * r) tx 64) (ch, wo, wr)).1 32)), (a 10, gI g 64 rd), (a 31, gI g 64 ((dgM rd 64 (inT (z32 dg (64 * sd + r) 32) (64 * sd + 2 * r) tx 64) (ch, wo, wr)).2.1)), (a 32, gI g 8 ((dgM rd 64 (inT (z32 dg (64 * sd + r) 32) (64 * sd + 2 * r) tx 64) (ch, wo, wr)).1)), (a 33, gI g 8 ((dgM rd 64 (inT (z32 dg (64 * sd + r) 32) (64 * sd + 2 * r) tx 64) (ch, wo, wr)).2.2)), (a 0, oM a th (bI wk) ro (nI lo) (nI ne) (nI di) (bI ta) (nI ce) (nI fo) (nI (4 * 2))), (a 30, gI g 128 (smT (va_up sm (64 * sd + r) (nI 0)) (64 * sd + 2 * r) (padT 64 (miT sd r (dg, sm, (bt, tx), (ch, wo, wr)))) 2))]) C 1 rfl (by omega) (by decide) rfl dX5_make_214 ?_
                  refine g_perm (w2 := [(a 0, oM a th (bI wk) ro (nI lo) (nI ne) (nI di) (bI ta) (nI ce) (nI fo) (nI (4 * 2))), (a 2, gZ g 8 hs), (a 5, gZ g 512 kw), (a 6, gJ g 512 kv), (a 8, gI g 4096 (dgB (32 * ((64 * sd) + r)) (z32 dg (64 * sd + r) 32) (dgM rd 64 (inT (z32 dg (64 * sd + r) 32) (64 * sd + 2 * r) tx 64) (ch, wo, wr)).1 32)), (a 9, gI g 128 (va_up (va_up sm ((64 * sd) + r) (nI 0)) ((64 * sd) + r) (fldT (smT (va_up sm (64 * sd + r) (nI 0)) (64 * sd + 2 * r) (padT 64 (miT sd r (dg, sm, (bt, tx), (ch, wo, wr)))) 2) (4 * 2)))), (a 10, gI g 64 rd), (a 30, gI g 128 (smT (va_up sm (64 * sd + r) (nI 0)) (64 * sd + 2 * r) (padT 64 (miT sd r (dg, sm, (bt, tx), (ch, wo, wr)))) 2)), (a 31, gI g 64 ((dgM rd 64 (inT (z32 dg (64 * sd + r) 32) (64 * sd + 2 * r) tx 64) (ch, wo, wr)).2.1)), (a 32, gI g 8 ((dgM rd 64 (inT (z32 dg (64 * sd + r) 32) (64 * sd + 2 * r) tx 64) (ch, wo, wr)).1)), (a 33, gI g 8 ((dgM rd 64 (inT (z32 dg (64 * sd + r) 32) (64 * sd + 2 * r) tx 64) (ch, wo, wr)).2.2))]) [9, 2, 3, 0, 4, 1, 5, 10, 6, 7, 8] rfl rfl rfl ?_
                  refine g_vret C dX5_make_215 (by decide) (by decide) ?_
                  refine ⟨rfl, ?_⟩
                  rw [mkE, if_neg c50, if_pos c57]
                  rfl
                · skip
                  exfalso; omega
              · intro j hlj huj hPj ihj
                try dsimp only at ihj ⊢
                refine g_iload C dX5_make_161 5 rfl ?_
                refine g_iload C dX5_make_163 4 rfl ?_
                refine g_iconst (v := nI 2) C dX5_make_165 (by decide) ?_
                refine g_iadd_n C dX5_make_166 ?_
                refine g_icmp_ge_n (tgt := 205) C dX5_make_167 (by decide) (by omega) (by omega) (fun c167 => ?_) (fun c167 => ?_)
                · skip
                  exfalso; omega
                · skip
                  refine g_bipush (v := nI 24) C dX5_make_170 (by decide) ?_
                  refine g_istore (L' := [(6, .int (nI 24)), (0, .ref (a 0)), (1, .int (nI sd)), (2, .int (nI r)), (3, .int (nI ((64 * sd) + r))), (4, .int (nI ((64 * sd) + (2 * r)))), (5, .int (nI (64 * sd + 2 * r + j)))]) C dX5_make_172 (by decide) rfl ?_
                  refine g_up 4 0 (fun _ => True) (fun u => [(6, .int (nI (32 - 8 * u) - 8)), (0, .ref (a 0)), (1, .int (nI sd)), (2, .int (nI r)), (3, .int (nI ((64 * sd) + r))), (4, .int (nI ((64 * sd) + (2 * r)))), (5, .int (nI (64 * sd + 2 * r + j)))]) (fun u => [(a 6, gJ g 512 kv), (a 9, gI g 128 (va_up sm ((64 * sd) + r) (nI 0))), (a 2, gZ g 8 hs), (a 5, gZ g 512 kw), (a 0, oM a th (bI wk) ro (nI lo) (nI ne) (nI di) (bI ta) (nI ce) (nI fo) (nI (4 * j + u))), (a 8, gI g 4096 (dgB (32 * ((64 * sd) + r)) (z32 dg (64 * sd + r) 32) (dgM rd 64 (inT (z32 dg (64 * sd + r) 32) (64 * sd + 2 * r) tx 64) (ch, wo, wr)).1 32)), (a 10, gI g 64 rd), (a 30, gI g 128 (smT1 ((va_up sm (64 * sd + r) (nI 0)) (64 * sd + 2 * r + j)) (4 * j) (smT (va_up sm (64 * sd + r) (nI 0)) (64 * sd + 2 * r) (padT 64 (miT sd r (dg, sm, (bt, tx), (ch, wo, wr)))) j) u)), (a 31, gI g 64 ((dgM rd 64 (inT (z32 dg (64 * sd + r) 32) (64 * sd + 2 * r) tx 64) (ch, wo, wr)).2.1)), (a 32, gI g 8 ((dgM rd 64 (inT (z32 dg (64 * sd + r) 32) (64 * sd + 2 * r) tx 64) (ch, wo, wr)).1)), (a 33, gI g 8 ((dgM rd 64 (inT (z32 dg (64 * sd + r) 32) (64 * sd + 2 * r) tx 64) (ch, wo, wr)).2.2))]) (by omega) (trivial) ?_ ?_
                  · intro hPu
                    try dsimp only
                    rw [show nI (32 - 8 * 4) - 8 = (-8 : Int32) by decide]
                    refine g_iload C dX5_make_174 0 rfl ?_
                    refine g_if_lt (tgt := 199) C dX5_make_176 (by decide) (fun c176 => ?_) (fun c176 => ?_)
                    · skip
                      refine g_iinc_n (d := 1) (L' := [(5, .int (nI ((64 * sd + 2 * r + j) + 1))), (6, .int (-8)), (0, .ref (a 0)), (1, .int (nI sd)), (2, .int (nI r)), (3, .int (nI ((64 * sd) + r))), (4, .int (nI ((64 * sd) + (2 * r))))]) C dX5_make_199 6 rfl (by decide) (by decide) rfl ?_
                      refine g_goto (tgt := 161) C dX5_make_202 (by decide) ?_
                      refine g_L (L2 := [(0, .ref (a 0)), (1, .int (nI sd)), (2, .int (nI r)), (3, .int (nI ((64 * sd) + r))), (4, .int (nI ((64 * sd) + (2 * r)))), (5, .int (nI ((64 * sd + 2 * r + j) + 1)))]) [2, 3, 4, 5, 6, 0] rfl ?_
                      exact ihj (trivial)
                    · skip
                      exact absurd (by decide) c176
                  · intro u hlu huu hPu ihu
                    try dsimp only at ihu ⊢
                    rw [nI_dec4 huu]
                    refine g_iload C dX5_make_174 0 rfl ?_
                    refine g_if_lt_n (tgt := 199) C dX5_make_176 (by decide) (by omega) ?_
                    refine g_aload_n C dX5_make_179 rfl 1 rfl ?_
                    refine g_aload_n C dX5_make_180 rfl 1 rfl ?_
                    refine g_get C hinX5 4 rfl rfl 8 (by decide) (by decide +kernel) rfl rfl dX5_make_181 ?_
                    refine g_iload C dX5_make_184 6 rfl ?_
                    refine g_iald C 1 rfl (by omega) (by decide) dX5_make_186 ?_
                    refine g_iload C dX5_make_187 0 rfl ?_
                    refine g_ishr C dX5_make_189 ?_
                    refine g_callV0 (wr := [(a 6, gJ g 512 kv), (a 9, gI g 128 (va_up sm ((64 * sd) + r) (nI 0))), (a 2, gZ g 8 hs), (a 5, gZ g 512 kw), (a 8, gI g 4096 (dgB (32 * ((64 * sd) + r)) (z32 dg (64 * sd + r) 32) (dgM rd 64 (inT (z32 dg (64 * sd + r) 32) (64 * sd + 2 * r) tx 64) (ch, wo, wr)).1 32)), (a 10, gI g 64 rd), (a 31, gI g 64 ((dgM rd 64 (inT (z32 dg (64 * sd + r) 32) (64 * sd + 2 * r) tx 64) (ch, wo, wr)).2.1)), (a 32, gI g 8 ((dgM rd 64 (inT (z32 dg (64 * sd + r) 32) (64 * sd + 2 * r) tx 64) (ch, wo, wr)).1)), (a 33, gI g 8 ((dgM rd 64 (inT (z32 dg (64 * sd + r) 32) (64 * sd + 2 * r) tx 64) (ch, wo, wr)).2.2))]) (w2 := [(a 6, gJ g 512 kv), (a 9, gI g 128 (va_up sm ((64 * sd) + r) (nI 0))), (a 2, gZ g 8 hs), (a 5, gZ g 512 kw), (a 8, gI g 4096 (dgB (32 * ((64 * sd) + r)) (z32 dg (64 * sd + r) 32) (dgM rd 64 (inT (z32 dg (64 * sd + r) 32) (64 * sd + 2 * r) tx 64) (ch, wo, wr)).1 32)), (a 10, gI g 64 rd), (a 31, gI g 64 ((dgM rd 64 (inT (z32 dg (64 * sd + r) 32) (64 * sd + 2 * r) tx 64) (ch, wo, wr)).2.1)), (a 32, gI g 8 ((dgM rd 64 (inT (z32 dg (64 * sd + r) 32) (64 * sd + 2 * r) tx 64) (ch, wo, wr)).1)), (a 33, gI g 8 ((dgM rd 64 (inT (z32 dg (64 * sd + r) 32) (64 * sd + 2 * r) tx 64) (ch, wo, wr)).2.2)), (a 0, oM a th (bI wk) ro (nI lo) (nI ne) (nI di) (bI ta) (nI ce) (nI fo) (nI ((4 * j + u) + 1))), (a 30, gI g 128 (va_up (smT1 ((va_up sm (64 * sd + r) (nI 0)) (64 * sd + 2 * r + j)) (4 * j) (smT (va_up sm (64 * sd + r) (nI 0)) (64 * sd + 2 * r) (padT 64 (miT sd r (dg, sm, (bt, tx), (ch, wo, wr)))) j) u) (4 * j + u) ((((va_up sm ((64 * sd) + r) (nI 0)) (64 * sd + 2 * r + j)) >>> ((nI (24 - 8 * u)) &&& 31)) &&& nI 255)))]) C (c_X5_put l g a th wk ro lo ne di ta ce fo (4 * j + u) (smT1 ((va_up sm (64 * sd + r) (nI 0)) (64 * sd + 2 * r + j)) (4 * j) (smT (va_up sm (64 * sd + r) (nI 0)) (64 * sd + 2 * r) (padT 64 (miT sd r (dg, sm, (bt, tx), (ch, wo, wr)))) j) u) (((va_up sm ((64 * sd) + r) (nI 0)) (64 * sd + 2 * r + j)) >>> ((nI (24 - 8 * u)) &&& 31)) (by omega)) (cwV 1 C.2.2.2.2.1 gX5_make_X5_put rfl rfl rfl (by decide +kernel) ⟨Nat.le_of_ble_eq_true rfl, Nat.le_of_ble_eq_true rfl⟩) 4 rfl rfl rfl [4, 7] [0, 1, 2, 3, 5, 6, 8, 9, 10] rfl rfl rfl rfl rfl (by decide) rfl rfl (Nat.le_of_ble_eq_true rfl) dX5_make_190 ⟨Nat.le_of_ble_eq_true rfl, Nat.le_of_ble_eq_true rfl⟩ rfl ?_
                    refine g_iinc (v := (nI (24 - 8 * u)) - 8) (L' := [(6, .int ((nI (24 - 8 * u)) - 8)), (0, .ref (a 0)), (1, .int (nI sd)), (2, .int (nI r)), (3, .int (nI ((64 * sd) + r))), (4, .int (nI ((64 * sd) + (2 * r)))), (5, .int (nI (64 * sd + 2 * r + j)))]) C dX5_make_193 0 rfl (by rw [Int32.sub_eq_add_neg]; rfl) (by decide) rfl ?_
                    refine g_goto (tgt := 174) C dX5_make_196 (by decide) ?_
                    refine g_perm (w2 := [(a 6, gJ g 512 kv), (a 9, gI g 128 (va_up sm ((64 * sd) + r) (nI 0))), (a 2, gZ g 8 hs), (a 5, gZ g 512 kw), (a 0, oM a th (bI wk) ro (nI lo) (nI ne) (nI di) (bI ta) (nI ce) (nI fo) (nI ((4 * j + u) + 1))), (a 8, gI g 4096 (dgB (32 * ((64 * sd) + r)) (z32 dg (64 * sd + r) 32) (dgM rd 64 (inT (z32 dg (64 * sd + r) 32) (64 * sd + 2 * r) tx 64) (ch, wo, wr)).1 32)), (a 10, gI g 64 rd), (a 30, gI g 128 (va_up (smT1 ((va_up sm (64 * sd + r) (nI 0)) (64 * sd + 2 * r + j)) (4 * j) (smT (va_up sm (64 * sd + r) (nI 0)) (64 * sd + 2 * r) (padT 64 (miT sd r (dg, sm, (bt, tx), (ch, wo, wr)))) j) u) (4 * j + u) ((((va_up sm ((64 * sd) + r) (nI 0)) (64 * sd + 2 * r + j)) >>> ((nI (24 - 8 * u)) &&& 31)) &&& nI 255))), (a 31, gI g 64 ((dgM rd 64 (inT (z32 dg (64 * sd + r) 32) (64 * sd + 2 * r) tx 64) (ch, wo, wr)).2.1)), (a 32, gI g 8 ((dgM rd 64 (inT (z32 dg (64 * sd + r) 32) (64 * sd + 2 * r) tx 64) (ch, wo, wr)).1)), (a 33, gI g 8 ((dgM rd 64 (inT (z32 dg (64 * sd + r) 32) (64 * sd + 2 * r) tx 64) (ch, wo, wr)).2.2))]) [0, 1, 2, 3, 9, 4, 5, 10, 6, 7, 8] rfl rfl rfl ?_
                    rw [show 32 - 8 * (u + 1) = 24 - 8 * u by omega] at ihu
                    exact ihu (trivial)
            · skip
              exfalso; omega
          · intro j hlj huj hPj ihj
            try dsimp only at ihj ⊢
            refine g_iload C dX5_make_114 0 rfl ?_
            refine g_bipush (v := nI 64) C dX5_make_116 (by decide) ?_
            refine g_icmp_ge_n (tgt := 144) C dX5_make_118 (by decide) (by omega) (by omega) (fun c118 => ?_) (fun c118 => ?_)
            · skip
              exfalso; omega
            · skip
              refine g_aload_n C dX5_make_121 rfl 3 rfl ?_
              refine g_aload_n C dX5_make_122 rfl 3 rfl ?_
              refine g_get C hinX5 8 rfl rfl 7 (by decide) (by decide +kernel) rfl rfl dX5_make_123 ?_
              refine g_bipush (v := nI 32) C dX5_make_126 (by decide) ?_
              refine g_iload C dX5_make_128 1 rfl ?_
              refine g_imul_n C dX5_make_130 ?_
              refine g_iload C dX5_make_131 0 rfl ?_
              refine g_iadd_n C dX5_make_133 ?_
              refine g_iald C 1 rfl (by omega) (by decide) dX5_make_134 ?_
              refine g_callV0 (wr := [(a 6, gJ g 512 kv), (a 8, gI g 4096 (z32 dg (64 * sd + r) 32)), (a 9, gI g 128 (va_up sm ((64 * sd) + r) (nI 0))), (a 10, gI g 64 rd), (a 31, gI g 64 wo), (a 32, gI g 8 ch), (a 33, gI g 8 wr), (a 2, gZ g 8 hs), (a 5, gZ g 512 kw)]) (w2 := [(a 6, gJ g 512 kv), (a 8, gI g 4096 (z32 dg (64 * sd + r) 32)), (a 9, gI g 128 (va_up sm ((64 * sd) + r) (nI 0))), (a 10, gI g 64 rd), (a 31, gI g 64 wo), (a 32, gI g 8 ch), (a 33, gI g 8 wr), (a 2, gZ g 8 hs), (a 5, gZ g 512 kw), (a 0, oM a th (bI wk) ro (nI lo) (nI ne) (nI di) (bI ta) (nI ce) (nI fo) (nI (j + 1))), (a 30, gI g 128 (va_up (inT (z32 dg (64 * sd + r) 32) (64 * sd + 2 * r) tx j) j (((z32 dg (64 * sd + r) 32) ((32 * ((64 * sd) + (2 * r))) + j)) &&& nI 255)))]) C (c_X5_put l g a th wk ro lo ne di ta ce fo j (inT (z32 dg (64 * sd + r) 32) (64 * sd + 2 * r) tx j) ((z32 dg (64 * sd + r) 32) ((32 * ((64 * sd) + (2 * r))) + j)) (by omega)) (cwV 1 C.2.2.2.2.1 gX5_make_X5_put rfl rfl rfl (by decide +kernel) ⟨Nat.le_of_ble_eq_true rfl, Nat.le_of_ble_eq_true rfl⟩) 8 rfl rfl rfl [8, 4] [0, 1, 2, 3, 5, 6, 7, 9, 10] rfl rfl rfl rfl rfl (by decide) rfl rfl (Nat.le_of_ble_eq_true rfl) dX5_make_135 ⟨Nat.le_of_ble_eq_true rfl, Nat.le_of_ble_eq_true rfl⟩ rfl ?_
              refine g_iinc_n (d := 1) (L' := [(5, .int (nI (j + 1))), (4, .int (nI ((64 * sd) + (2 * r)))), (3, .int (nI ((64 * sd) + r))), (0, .ref (a 0)), (1, .int (nI sd)), (2, .int (nI r))]) C dX5_make_138 0 rfl (by decide) (by decide) rfl ?_
              refine g_goto (tgt := 114) C dX5_make_141 (by decide) ?_
              refine g_perm (w2 := [(a 6, gJ g 512 kv), (a 8, gI g 4096 (z32 dg (64 * sd + r) 32)), (a 9, gI g 128 (va_up sm ((64 * sd) + r) (nI 0))), (a 10, gI g 64 rd), (a 30, gI g 128 (va_up (inT (z32 dg (64 * sd + r) 32) (64 * sd + 2 * r) tx j) j (((z32 dg (64 * sd + r) 32) ((32 * ((64 * sd) + (2 * r))) + j)) &&& nI 255))), (a 31, gI g 64 wo), (a 32, gI g 8 ch), (a 33, gI g 8 wr), (a 0, oM a th (bI wk) ro (nI lo) (nI ne) (nI di) (bI ta) (nI ce) (nI fo) (nI (j + 1))), (a 2, gZ g 8 hs), (a 5, gZ g 512 kw)]) [0, 1, 2, 3, 10, 4, 5, 6, 9, 7, 8] rfl rfl rfl ?_
              exact ihj (trivial)
        · skip
          have hm8 := mnN_le kw hs sd r c57 h2
          refine g_aload_n C dX5_make_60 rfl 2 rfl ?_
          refine g_iload_n C dX5_make_61 rfl 3 rfl ?_
          refine g_iload_n C dX5_make_62 rfl 4 rfl ?_
          refine g_iconst (v := nI 1) C dX5_make_63 (by decide) ?_
          refine g_bipush (v := nI 32) C dX5_make_64 (by decide) ?_
          refine g_iload_n C dX5_make_66 rfl 1 rfl ?_
          refine g_imul_n C dX5_make_67 ?_
          refine g_st (st2 := [.int (nI (32 * ((64 * sd) + r))), .int (bI true), .int (nI r), .int (nI sd), .ref (a 0)]) rfl ?_
          refine g_callV0 (wr := [(a 9, gI g 128 (va_up sm ((64 * sd) + r) (nI 0)))]) (w2 := [(a 9, gI g 128 (va_up sm ((64 * sd) + r) (nI 0))), (a 0, oM a th (bI wk) ro (nI lo) (nI ne) (nI di) (bI ta) (nI ce) (nI fo) (nI ((mlE kw hs kv rd sd r (32 * ((64 * sd) + r)) (z32 dg (64 * sd + r) 32) tx (ch, wo, wr)).2.1.1))), (a 2, gZ g 8 hs), (a 5, gZ g 512 kw), (a 6, gJ g 512 kv), (a 8, gI g 4096 ((mlE kw hs kv rd sd r (32 * ((64 * sd) + r)) (z32 dg (64 * sd + r) 32) tx (ch, wo, wr)).1)), (a 10, gI g 64 rd), (a 30, gI g 128 ((mlE kw hs kv rd sd r (32 * ((64 * sd) + r)) (z32 dg (64 * sd + r) 32) tx (ch, wo, wr)).2.1.2)), (a 31, gI g 64 ((mlE kw hs kv rd sd r (32 * ((64 * sd) + r)) (z32 dg (64 * sd + r) 32) tx (ch, wo, wr)).2.2.2.1)), (a 32, gI g 8 ((mlE kw hs kv rd sd r (32 * ((64 * sd) + r)) (z32 dg (64 * sd + r) 32) tx (ch, wo, wr)).2.2.1)), (a 33, gI g 8 ((mlE kw hs kv rd sd r (32 * ((64 * sd) + r)) (z32 dg (64 * sd + r) 32) tx (ch, wo, wr)).2.2.2.2))]) C (c_X5_makeLeaf_t l g a th wk ro lo ne di ta ce fo bt hs kw kv (z32 dg (64 * sd + r) 32) rd tx wo ch wr sd r (32 * ((64 * sd) + r)) (by omega) (by omega) (by omega) (by omega)) (cwV 4 C.2.2.2.2.1 gX5_make_X5_makeLeaf rfl rfl rfl (by decide +kernel) ⟨Nat.le_of_ble_eq_true rfl, Nat.le_of_ble_eq_true rfl⟩) 8 rfl rfl rfl [8, 9, 10, 0, 1, 3, 4, 5, 6, 7] [2] rfl rfl rfl rfl rfl (by decide) rfl rfl (Nat.le_of_ble_eq_true rfl) dX5_make_68 ⟨Nat.le_of_ble_eq_true rfl, Nat.le_of_ble_eq_true rfl⟩ rfl ?_
          refine g_aload_n C dX5_make_71 rfl 2 rfl ?_
          refine g_bipush (v := nI 10) C dX5_make_72 (by decide) ?_
          refine g_aload_n C dX5_make_74 rfl 2 rfl ?_
          refine g_iload_n C dX5_make_75 rfl 3 rfl ?_
          refine g_iload_n C dX5_make_76 rfl 4 rfl ?_
          refine g_iconst (v := nI 1) C dX5_make_77 (by decide) ?_
          refine g_st (st2 := [.int (bI true), .int (nI r), .int (nI sd), .ref (a 0), .int (nI 10), .ref (a 0)]) rfl ?_
          refine g_callV1 (wr := [(a 9, gI g 128 (va_up sm ((64 * sd) + r) (nI 0))), (a 6, gJ g 512 kv), (a 8, gI g 4096 ((mlE kw hs kv rd sd r (32 * ((64 * sd) + r)) (z32 dg (64 * sd + r) 32) tx (ch, wo, wr)).1)), (a 10, gI g 64 rd), (a 30, gI g 128 ((mlE kw hs kv rd sd r (32 * ((64 * sd) + r)) (z32 dg (64 * sd + r) 32) tx (ch, wo, wr)).2.1.2)), (a 31, gI g 64 ((mlE kw hs kv rd sd r (32 * ((64 * sd) + r)) (z32 dg (64 * sd + r) 32) tx (ch, wo, wr)).2.2.2.1)), (a 32, gI g 8 ((mlE kw hs kv rd sd r (32 * ((64 * sd) + r)) (z32 dg (64 * sd + r) 32) tx (ch, wo, wr)).2.2.1)), (a 33, gI g 8 ((mlE kw hs kv rd sd r (32 * ((64 * sd) + r)) (z32 dg (64 * sd + r) 32) tx (ch, wo, wr)).2.2.2.2))]) (w2 := [(a 9, gI g 128 (va_up sm ((64 * sd) + r) (nI 0))), (a 6, gJ g 512 kv), (a 8, gI g 4096 ((mlE kw hs kv rd sd r (32 * ((64 * sd) + r)) (z32 dg (64 * sd + r) 32) tx (ch, wo, wr)).1)), (a 10, gI g 64 rd), (a 30, gI g 128 ((mlE kw hs kv rd sd r (32 * ((64 * sd) + r)) (z32 dg (64 * sd + r) 32) tx (ch, wo, wr)).2.1.2)), (a 31, gI g 64 ((mlE kw hs kv rd sd r (32 * ((64 * sd) + r)) (z32 dg (64 * sd + r) 32) tx (ch, wo, wr)).2.2.2.1)), (a 32, gI g 8 ((mlE kw hs kv rd sd r (32 * ((64 * sd) + r)) (z32 dg (64 * sd + r) 32) tx (ch, wo, wr)).2.2.1)), (a 33, gI g 8 ((mlE kw hs kv rd sd r (32 * ((64 * sd) + r)) (z32 dg (64 * sd + r) 32) tx (ch, wo, wr)).2.2.2.2)), (a 0, oM a th (bI wk) ro (nI lo) (nI ne) (nI di) (bI ta) (nI ce) (nI fo) (nI ((mlE kw hs kv rd sd r (32 * ((64 * sd) + r)) (z32 dg (64 * sd + r) 32) tx (ch, wo, wr)).2.1.1))), (a 2, gZ g 8 hs), (a 5, gZ g 512 kw)]) C (c_X5_many_t l g a th wk ro lo ne di ta ce fo ((mlE kw hs kv rd sd r (32 * ((64 * sd) + r)) (z32 dg (64 * sd + r) 32) tx (ch, wo, wr)).2.1.1) hs kw sd r (by omega) (by omega) (by omega)) (cwV 3 C.2.2.2.2.1 gX5_make_X5_many rfl rfl rfl (by decide +kernel) ⟨Nat.le_of_ble_eq_true rfl, Nat.le_of_ble_eq_true rfl⟩) 1 rfl rfl rfl [1, 2, 3] [0, 4, 5, 6, 7, 8, 9, 10] rfl rfl rfl rfl rfl (by decide) rfl rfl (Nat.le_of_ble_eq_true rfl) dX5_make_78 ⟨Nat.le_of_ble_eq_true rfl, Nat.le_of_ble_eq_true rfl⟩ rfl ?_
          refine g_imul_n C dX5_make_81 ?_
          refine g_put (ty := .int) (w2 := [(a 9, gI g 128 (va_up sm ((64 * sd) + r) (nI 0))), (a 6, gJ g 512 kv), (a 8, gI g 4096 ((mlE kw hs kv rd sd r (32 * ((64 * sd) + r)) (z32 dg (64 * sd + r) 32) tx (ch, wo, wr)).1)), (a 10, gI g 64 rd), (a 30, gI g 128 ((mlE kw hs kv rd sd r (32 * ((64 * sd) + r)) (z32 dg (64 * sd + r) 32) tx (ch, wo, wr)).2.1.2)), (a 31, gI g 64 ((mlE kw hs kv rd sd r (32 * ((64 * sd) + r)) (z32 dg (64 * sd + r) 32) tx (ch, wo, wr)).2.2.2.1)), (a 32, gI g 8 ((mlE kw hs kv rd sd r (32 * ((64 * sd) + r)) (z32 dg (64 * sd + r) 32) tx (ch, wo, wr)).2.2.1)), (a 33, gI g 8 ((mlE kw hs kv rd sd r (32 * ((64 * sd) + r)) (z32 dg (64 * sd + r) 32) tx (ch, wo, wr)).2.2.2.2)), (a 0, oM a th (bI wk) ro (nI lo) (nI ne) (nI di) (bI ta) (nI ce) (nI fo) (nI (10 * (mnN kw hs sd r)))), (a 2, gZ g 8 hs), (a 5, gZ g 512 kw)]) C hinX5 8 rfl rfl 28 (by decide) (by decide +kernel) rfl tyX5 tyX5_ok nmX5 rfl (by decide +kernel) rfl rfl (Nat.le_of_ble_eq_true rfl) rfl dX5_make_82 ?_
          refine g_aload_n C dX5_make_85 rfl 2 rfl ?_
          refine g_get C hinX5 8 rfl rfl 8 (by decide) (by decide +kernel) rfl rfl dX5_make_86 ?_
          refine g_iload_n C dX5_make_89 rfl 1 rfl ?_
          refine g_aload_n C dX5_make_90 rfl 2 rfl ?_
          refine g_callV1 (wr := [(a 9, gI g 128 (va_up sm ((64 * sd) + r) (nI 0))), (a 6, gJ g 512 kv), (a 8, gI g 4096 ((mlE kw hs kv rd sd r (32 * ((64 * sd) + r)) (z32 dg (64 * sd + r) 32) tx (ch, wo, wr)).1)), (a 10, gI g 64 rd), (a 31, gI g 64 ((mlE kw hs kv rd sd r (32 * ((64 * sd) + r)) (z32 dg (64 * sd + r) 32) tx (ch, wo, wr)).2.2.2.1)), (a 32, gI g 8 ((mlE kw hs kv rd sd r (32 * ((64 * sd) + r)) (z32 dg (64 * sd + r) 32) tx (ch, wo, wr)).2.2.1)), (a 33, gI g 8 ((mlE kw hs kv rd sd r (32 * ((64 * sd) + r)) (z32 dg (64 * sd + r) 32) tx (ch, wo, wr)).2.2.2.2)), (a 2, gZ g 8 hs), (a 5, gZ g 512 kw)]) (w2 := [(a 9, gI g 128 (va_up sm ((64 * sd) + r) (nI 0))), (a 6, gJ g 512 kv), (a 8, gI g 4096 ((mlE kw hs kv rd sd r (32 * ((64 * sd) + r)) (z32 dg (64 * sd + r) 32) tx (ch, wo, wr)).1)), (a 10, gI g 64 rd), (a 31, gI g 64 ((mlE kw hs kv rd sd r (32 * ((64 * sd) + r)) (z32 dg (64 * sd + r) 32) tx (ch, wo, wr)).2.2.2.1)), (a 32, gI g 8 ((mlE kw hs kv rd sd r (32 * ((64 * sd) + r)) (z32 dg (64 * sd + r) 32) tx (ch, wo, wr)).2.2.1)), (a 33, gI g 8 ((mlE kw hs kv rd sd r (32 * ((64 * sd) + r)) (z32 dg (64 * sd + r) 32) tx (ch, wo, wr)).2.2.2.2)), (a 2, gZ g 8 hs), (a 5, gZ g 512 kw), (a 0, oM a th (bI wk) ro (nI lo) (nI ne) (nI di) (bI ta) (nI ce) (nI fo) (nI (10 * (mnN kw hs sd r)))), (a 30, gI g 128 ((mlE kw hs kv rd sd r (32 * ((64 * sd) + r)) (z32 dg (64 * sd + r) 32) tx (ch, wo, wr)).2.1.2))]) C (c_X5_fold l g a th wk ro lo ne di ta ce fo (10 * (mnN kw hs sd r)) ((mlE kw hs kv rd sd r (32 * ((64 * sd) + r)) (z32 dg (64 * sd + r) 32) tx (ch, wo, wr)).2.1.2) (by omega)) (cwV 0 C.2.2.2.2.1 gX5_make_X5_fold rfl rfl rfl (by decide +kernel) ⟨Nat.le_of_ble_eq_true rfl, Nat.le_of_ble_eq_true rfl⟩) 8 rfl rfl rfl [8, 4] [0, 1, 2, 3, 5, 6, 7, 9, 10] rfl rfl rfl rfl rfl (by decide) rfl rfl (Nat.le_of_ble_eq_true rfl) dX5_make_91 ⟨Nat.le_of_ble_eq_true rfl, Nat.le_of_ble_eq_true rfl⟩ rfl ?_
          refine g_iast (w2 := [(a 9, gI g 128 (va_up (va_up sm ((64 * sd) + r) (nI 0)) ((64 * sd) + r) (fldT ((mlE kw hs kv rd sd r (32 * ((64 * sd) + r)) (z32 dg (64 * sd + r) 32) tx (ch, wo, wr)).2.1.2) (10 * (mnN kw hs sd r))))), (a 6, gJ g 512 kv), (a 8, gI g 4096 ((mlE kw hs kv rd sd r (32 * ((64 * sd) + r)) (z32 dg (64 * sd + r) 32) tx (ch, wo, wr)).1)), (a 10, gI g 64 rd), (a 31, gI g 64 ((mlE kw hs kv rd sd r (32 * ((64 * sd) + r)) (z32 dg (64 * sd + r) 32) tx (ch, wo, wr)).2.2.2.1)), (a 32, gI g 8 ((mlE kw hs kv rd sd r (32 * ((64 * sd) + r)) (z32 dg (64 * sd + r) 32) tx (ch, wo, wr)).2.2.1)), (a 33, gI g 8 ((mlE kw hs kv rd sd r (32 * ((64 * sd) + r)) (z32 dg (64 * sd + r) 32) tx (ch, wo, wr)).2.2.2.2)), (a 2, gZ g 8 hs), (a 5, gZ g 512 kw), (a 0, oM a th (bI wk) ro (nI lo) (nI ne) (nI di) (bI ta) (nI ce) (nI fo) (nI (10 * (mnN kw hs sd r)))), (a 30, gI g 128 ((mlE kw hs kv rd sd r (32 * ((64 * sd) + r)) (z32 dg (64 * sd + r) 32) tx (ch, wo, wr)).2.1.2))]) C 0 rfl (by omega) (by decide) rfl dX5_make_94 ?_
          refine g_perm (w2 := [(a 0, oM a th (bI wk) ro (nI lo) (nI ne) (nI di) (bI ta) (nI ce) (nI fo) (nI (10 * (mnN kw hs sd r)))), (a 2, gZ g 8 hs), (a 5, gZ g 512 kw), (a 6, gJ g 512 kv), (a 8, gI g 4096 ((mlE kw hs kv rd sd r (32 * ((64 * sd) + r)) (z32 dg (64 * sd + r) 32) tx (ch, wo, wr)).1)), (a 9, gI g 128 (va_up (va_up sm ((64 * sd) + r) (nI 0)) ((64 * sd) + r) (fldT ((mlE kw hs kv rd sd r (32 * ((64 * sd) + r)) (z32 dg (64 * sd + r) 32) tx (ch, wo, wr)).2.1.2) (10 * (mnN kw hs sd r))))), (a 10, gI g 64 rd), (a 30, gI g 128 ((mlE kw hs kv rd sd r (32 * ((64 * sd) + r)) (z32 dg (64 * sd + r) 32) tx (ch, wo, wr)).2.1.2)), (a 31, gI g 64 ((mlE kw hs kv rd sd r (32 * ((64 * sd) + r)) (z32 dg (64 * sd + r) 32) tx (ch, wo, wr)).2.2.2.1)), (a 32, gI g 8 ((mlE kw hs kv rd sd r (32 * ((64 * sd) + r)) (z32 dg (64 * sd + r) 32) tx (ch, wo, wr)).2.2.1)), (a 33, gI g 8 ((mlE kw hs kv rd sd r (32 * ((64 * sd) + r)) (z32 dg (64 * sd + r) 32) tx (ch, wo, wr)).2.2.2.2))]) [9, 7, 8, 1, 2, 0, 3, 10, 4, 5, 6] rfl rfl rfl ?_
          refine g_vret C dX5_make_95 (by decide) (by decide) ?_
          refine ⟨rfl, ?_⟩
          rw [mkE, if_neg c50, if_neg (Nat.not_lt.mpr c57)]
          rfl
      · skip
        refine g_perm (w2 := [(a 0, oM a th (bI wk) ro (nI lo) (nI ne) (nI di) (bI ta) (nI ce) (nI fo) (nI bt)), (a 2, gZ g 8 hs), (a 5, gZ g 512 kw), (a 6, gJ g 512 kv), (a 8, gI g 4096 (z32 dg (64 * sd + r) 32)), (a 9, gI g 128 (va_up sm ((64 * sd) + r) (nI 0))), (a 10, gI g 64 rd), (a 30, gI g 128 tx), (a 31, gI g 64 wo), (a 32, gI g 8 ch), (a 33, gI g 8 wr)]) [8, 9, 10, 0, 1, 2, 3, 4, 5, 6, 7] rfl rfl rfl ?_
        refine g_vret C dX5_make_53 (by decide) (by decide) ?_
        refine ⟨rfl, ?_⟩
        rw [mkE, if_pos c50]
    · skip
      exfalso; omega
  · intro j hlj huj hPj ihj
    try dsimp only at ihj ⊢
    refine g_iload C dX5_make_17 0 rfl ?_
    refine g_bipush (v := nI 32) C dX5_make_19 (by decide) ?_
    refine g_icmp_ge_n (tgt := 43) C dX5_make_21 (by decide) (by omega) (by omega) (fun c21 => ?_) (fun c21 => ?_)
    · skip
      exfalso; omega
    · skip
      refine g_aload_n C dX5_make_24 rfl 2 rfl ?_
      refine g_get C hinX5 0 rfl rfl 7 (by decide) (by decide +kernel) rfl rfl dX5_make_25 ?_
      refine g_bipush (v := nI 32) C dX5_make_28 (by decide) ?_
      refine g_iload_n C dX5_make_30 rfl 1 rfl ?_
      refine g_imul_n C dX5_make_31 ?_
      refine g_iload C dX5_make_32 0 rfl ?_
      refine g_iadd_n C dX5_make_34 ?_
      refine g_iconst (v := nI 0) C dX5_make_35 (by decide) ?_
      refine g_iast (w2 := [(a 0, oM a th (bI wk) ro (nI lo) (nI ne) (nI di) (bI ta) (nI ce) (nI fo) (nI bt)), (a 2, gZ g 8 hs), (a 5, gZ g 512 kw), (a 6, gJ g 512 kv), (a 8, gI g 4096 (va_up (z32 dg (64 * sd + r) j) ((32 * ((64 * sd) + r)) + j) (nI 0))), (a 9, gI g 128 (va_up sm ((64 * sd) + r) (nI 0))), (a 10, gI g 64 rd), (a 30, gI g 128 tx), (a 31, gI g 64 wo), (a 32, gI g 8 ch), (a 33, gI g 8 wr)]) C 4 rfl (by omega) (by decide) rfl dX5_make_36 ?_
      refine g_iinc_n (d := 1) (L' := [(4, .int (nI (j + 1))), (3, .int (nI ((64 * sd) + r))), (0, .ref (a 0)), (1, .int (nI sd)), (2, .int (nI r))]) C dX5_make_37 0 rfl (by decide) (by decide) rfl ?_
      refine g_goto (tgt := 17) C dX5_make_40 (by decide) ?_
      exact ihj (trivial)
set_option maxHeartbeats 4000000 in
set_option maxRecDepth 100000 in
theorem c_X5_refresh (l : Launch) (g : gE) (a : Nat → Nat) (th : Int32) (wk : Bool) (ro : Int32) (lo ne di : Nat) (ta : Bool) (ce fo bt : Nat) (hs : Nat → Bool) (kw : Nat → Bool) (kv : Nat → Int64) (fr : Nat → Bool) (dg : Nat → Int32) (sm : Nat → Int32) (rd : Nat → Int32) (tx : Nat → Int32) (wo : Nat → Int32) (ch : Nat → Int32) (wr : Nat → Int32) (sd : Nat) (hs1 : sd < 2) : Kt l g yX5_refresh wsX5_refresh 5 123 0 0 [.ref (a 0), .int (nI sd)] [(a 0, oM a th (bI wk) ro (nI lo) (nI ne) (nI di) (bI ta) (nI ce) (nI fo) (nI bt)), (a 2, gZ g 8 hs), (a 5, gZ g 512 kw), (a 6, gJ g 512 kv), (a 7, gZ g 2 fr), (a 8, gI g 4096 dg), (a 9, gI g 128 sm), (a 10, gI g 64 rd), (a 30, gI g 128 tx), (a 31, gI g 64 wo), (a 32, gI g 8 ch), (a 33, gI g 8 wr)] (kR none [(a 0, oM a th (bI wk) ro (nI lo) (nI ne) (nI di) (bI ta) (nI ce) (nI fo) (nI ((rfR kw hs kv rd sd (fr, (dg, sm, (bt, tx), (ch, wo, wr)))).2.2.2.1.1))), (a 2, gZ g 8 hs), (a 5, gZ g 512 kw), (a 6, gJ g 512 kv), (a 7, gZ g 2 ((rfR kw hs kv rd sd (fr, (dg, sm, (bt, tx), (ch, wo, wr)))).1)), (a 8, gI g 4096 ((rfR kw hs kv rd sd (fr, (dg, sm, (bt, tx), (ch, wo, wr)))).2.1)), (a 9, gI g 128 ((rfR kw hs kv rd sd (fr, (dg, sm, (bt, tx), (ch, wo, wr)))).2.2.1)), (a 10, gI g 64 rd), (a 30, gI g 128 ((rfR kw hs kv rd sd (fr, (dg, sm, (bt, tx), (ch, wo, wr)))).2.2.2.1.2)), (a 31, gI g 64 ((rfR kw hs kv rd sd (fr, (dg, sm, (bt, tx), (ch, wo, wr)))).2.2.2.2.2.1)), (a 32, gI g 8 ((rfR kw hs kv rd sd (fr, (dg, sm, (bt, tx), (ch, wo, wr)))).2.2.2.2.1)), (a 33, gI g 8 ((rfR kw hs kv rd sd (fr, (dg, sm, (bt, tx), (ch, wo, wr)))).2.2.2.2.2.2))]) := by
  have hinX5 : ∀ w ∈ wsX50, w ∈ wsX5_refresh := by
    intro w h
    unfold wsX5_refresh
    simp only [List.mem_cons, List.mem_append]
    simp only [h, or_true, true_or]
  refine g_enter (cc := cX5_refresh) (maxL := 3) (ret := none) (own := RX5) (L := [(0, .ref (a 0)), (1, .int (nI sd))]) (by decide) rfl rfl (Nat.le_of_ble_eq_true rfl) rfl ?_
  intro p e s m args below meth c hin0 C
  refine g_aload_n C dX5_refresh_0 rfl 0 rfl ?_
  refine g_get C hinX5 0 rfl rfl 6 (by decide) (by decide +kernel) rfl rfl dX5_refresh_1 ?_
  refine g_iload_n C dX5_refresh_4 rfl 1 rfl ?_
  refine g_zald C 4 rfl (by omega) (by decide) dX5_refresh_5 ?_
  refine g_if_eq_b (tgt := 10) C dX5_refresh_6 (by decide) (fun c6 => ?_) (fun c6 => ?_)
  · skip
    refine g_aload_n C dX5_refresh_10 rfl 0 rfl ?_
    refine g_get C hinX5 0 rfl rfl 6 (by decide) (by decide +kernel) rfl rfl dX5_refresh_11 ?_
    refine g_iload_n C dX5_refresh_14 rfl 1 rfl ?_
    refine g_iconst (v := nI 1) C dX5_refresh_15 (by decide) ?_
    refine g_st (st2 := [.int (bI true), .int (nI sd), .ref (a 7)]) rfl ?_
    refine g_zast (w2 := [(a 0, oM a th (bI wk) ro (nI lo) (nI ne) (nI di) (bI ta) (nI ce) (nI fo) (nI bt)), (a 2, gZ g 8 hs), (a 5, gZ g 512 kw), (a 6, gJ g 512 kv), (a 7, gZ g 2 (va_up fr sd true)), (a 8, gI g 4096 dg), (a 9, gI g 128 sm), (a 10, gI g 64 rd), (a 30, gI g 128 tx), (a 31, gI g 64 wo), (a 32, gI g 8 ch), (a 33, gI g 8 wr)]) C 4 rfl (by omega) (by decide) rfl dX5_refresh_16 ?_
    refine g_bipush (v := nI 63) C dX5_refresh_17 (by decide) ?_
    refine g_istore_n (L' := [(2, .int (nI 63)), (0, .ref (a 0)), (1, .int (nI sd))]) C dX5_refresh_19 rfl (by decide) rfl ?_
    refine g_up 63 0 (fun _ => True) (fun j => [(2, .int (nI (63 - j))), (0, .ref (a 0)), (1, .int (nI sd))]) (fun j => [(a 0, oM a th (bI wk) ro (nI lo) (nI ne) (nI di) (bI ta) (nI ce) (nI fo) (nI ((rfL kw hs kv rd sd (dg, sm, (bt, tx), (ch, wo, wr)) j).2.2.1.1))), (a 2, gZ g 8 hs), (a 5, gZ g 512 kw), (a 6, gJ g 512 kv), (a 7, gZ g 2 (va_up fr sd true)), (a 8, gI g 4096 ((rfL kw hs kv rd sd (dg, sm, (bt, tx), (ch, wo, wr)) j).1)), (a 9, gI g 128 ((rfL kw hs kv rd sd (dg, sm, (bt, tx), (ch, wo, wr)) j).2.1)), (a 10, gI g 64 rd), (a 30, gI g 128 ((rfL kw hs kv rd sd (dg, sm, (bt, tx), (ch, wo, wr)) j).2.2.1.2)), (a 31, gI g 64 ((rfL kw hs kv rd sd (dg, sm, (bt, tx), (ch, wo, wr)) j).2.2.2.2.1)), (a 32, gI g 8 ((rfL kw hs kv rd sd (dg, sm, (bt, tx), (ch, wo, wr)) j).2.2.2.1)), (a 33, gI g 8 ((rfL kw hs kv rd sd (dg, sm, (bt, tx), (ch, wo, wr)) j).2.2.2.2.2))]) (by omega) (trivial) ?_ ?_
    · intro hPj
      try dsimp only
      refine g_iload_n C dX5_refresh_20 rfl 0 rfl ?_
      refine g_if_le_n (tgt := 36) C dX5_refresh_21 (by decide) (by omega) (fun c21 => ?_) (fun c21 => ?_)
      · skip
        refine g_vret C dX5_refresh_36 (by decide) (by decide) ?_
        refine ⟨rfl, ?_⟩
        rw [rfR_f c6]
      · skip
        exfalso; omega
    · intro j hlj huj hPj ihj
      try dsimp only at ihj ⊢
      refine g_iload_n C dX5_refresh_20 rfl 0 rfl ?_
      refine g_if_le_n (tgt := 36) C dX5_refresh_21 (by decide) (by omega) (fun c21 => ?_) (fun c21 => ?_)
      · skip
        exfalso; omega
      · skip
        refine g_aload_n C dX5_refresh_24 rfl 1 rfl ?_
        refine g_iload_n C dX5_refresh_25 rfl 2 rfl ?_
        refine g_iload_n C dX5_refresh_26 rfl 0 rfl ?_
        refine g_callV0 (wr := [(a 7, gZ g 2 (va_up fr sd true))]) (w2 := [(a 7, gZ g 2 (va_up fr sd true)), (a 0, oM a th (bI wk) ro (nI lo) (nI ne) (nI di) (bI ta) (nI ce) (nI fo) (nI ((mkE kw hs kv rd sd (63 - j) (((rfL kw hs kv rd sd (dg, sm, (bt, tx), (ch, wo, wr)) j).1), ((rfL kw hs kv rd sd (dg, sm, (bt, tx), (ch, wo, wr)) j).2.1), (((rfL kw hs kv rd sd (dg, sm, (bt, tx), (ch, wo, wr)) j).2.2.1.1), ((rfL kw hs kv rd sd (dg, sm, (bt, tx), (ch, wo, wr)) j).2.2.1.2)), (((rfL kw hs kv rd sd (dg, sm, (bt, tx), (ch, wo, wr)) j).2.2.2.1), ((rfL kw hs kv rd sd (dg, sm, (bt, tx), (ch, wo, wr)) j).2.2.2.2.1), ((rfL kw hs kv rd sd (dg, sm, (bt, tx), (ch, wo, wr)) j).2.2.2.2.2)))).2.2.1.1))), (a 2, gZ g 8 hs), (a 5, gZ g 512 kw), (a 6, gJ g 512 kv), (a 8, gI g 4096 ((mkE kw hs kv rd sd (63 - j) (((rfL kw hs kv rd sd (dg, sm, (bt, tx), (ch, wo, wr)) j).1), ((rfL kw hs kv rd sd (dg, sm, (bt, tx), (ch, wo, wr)) j).2.1), (((rfL kw hs kv rd sd (dg, sm, (bt, tx), (ch, wo, wr)) j).2.2.1.1), ((rfL kw hs kv rd sd (dg, sm, (bt, tx), (ch, wo, wr)) j).2.2.1.2)), (((rfL kw hs kv rd sd (dg, sm, (bt, tx), (ch, wo, wr)) j).2.2.2.1), ((rfL kw hs kv rd sd (dg, sm, (bt, tx), (ch, wo, wr)) j).2.2.2.2.1), ((rfL kw hs kv rd sd (dg, sm, (bt, tx), (ch, wo, wr)) j).2.2.2.2.2)))).1)), (a 9, gI g 128 ((mkE kw hs kv rd sd (63 - j) (((rfL kw hs kv rd sd (dg, sm, (bt, tx), (ch, wo, wr)) j).1), ((rfL kw hs kv rd sd (dg, sm, (bt, tx), (ch, wo, wr)) j).2.1), (((rfL kw hs kv rd sd (dg, sm, (bt, tx), (ch, wo, wr)) j).2.2.1.1), ((rfL kw hs kv rd sd (dg, sm, (bt, tx), (ch, wo, wr)) j).2.2.1.2)), (((rfL kw hs kv rd sd (dg, sm, (bt, tx), (ch, wo, wr)) j).2.2.2.1), ((rfL kw hs kv rd sd (dg, sm, (bt, tx), (ch, wo, wr)) j).2.2.2.2.1), ((rfL kw hs kv rd sd (dg, sm, (bt, tx), (ch, wo, wr)) j).2.2.2.2.2)))).2.1)), (a 10, gI g 64 rd), (a 30, gI g 128 ((mkE kw hs kv rd sd (63 - j) (((rfL kw hs kv rd sd (dg, sm, (bt, tx), (ch, wo, wr)) j).1), ((rfL kw hs kv rd sd (dg, sm, (bt, tx), (ch, wo, wr)) j).2.1), (((rfL kw hs kv rd sd (dg, sm, (bt, tx), (ch, wo, wr)) j).2.2.1.1), ((rfL kw hs kv rd sd (dg, sm, (bt, tx), (ch, wo, wr)) j).2.2.1.2)), (((rfL kw hs kv rd sd (dg, sm, (bt, tx), (ch, wo, wr)) j).2.2.2.1), ((rfL kw hs kv rd sd (dg, sm, (bt, tx), (ch, wo, wr)) j).2.2.2.2.1), ((rfL kw hs kv rd sd (dg, sm, (bt, tx), (ch, wo, wr)) j).2.2.2.2.2)))).2.2.1.2)), (a 31, gI g 64 ((mkE kw hs kv rd sd (63 - j) (((rfL kw hs kv rd sd (dg, sm, (bt, tx), (ch, wo, wr)) j).1), ((rfL kw hs kv rd sd (dg, sm, (bt, tx), (ch, wo, wr)) j).2.1), (((rfL kw hs kv rd sd (dg, sm, (bt, tx), (ch, wo, wr)) j).2.2.1.1), ((rfL kw hs kv rd sd (dg, sm, (bt, tx), (ch, wo, wr)) j).2.2.1.2)), (((rfL kw hs kv rd sd (dg, sm, (bt, tx), (ch, wo, wr)) j).2.2.2.1), ((rfL kw hs kv rd sd (dg, sm, (bt, tx), (ch, wo, wr)) j).2.2.2.2.1), ((rfL kw hs kv rd sd (dg, sm, (bt, tx), (ch, wo, wr)) j).2.2.2.2.2)))).2.2.2.2.1)), (a 32, gI g 8 ((mkE kw hs kv rd sd (63 - j) (((rfL kw hs kv rd sd (dg, sm, (bt, tx), (ch, wo, wr)) j).1), ((rfL kw hs kv rd sd (dg, sm, (bt, tx), (ch, wo, wr)) j).2.1), (((rfL kw hs kv rd sd (dg, sm, (bt, tx), (ch, wo, wr)) j).2.2.1.1), ((rfL kw hs kv rd sd (dg, sm, (bt, tx), (ch, wo, wr)) j).2.2.1.2)), (((rfL kw hs kv rd sd (dg, sm, (bt, tx), (ch, wo, wr)) j).2.2.2.1), ((rfL kw hs kv rd sd (dg, sm, (bt, tx), (ch, wo, wr)) j).2.2.2.2.1), ((rfL kw hs kv rd sd (dg, sm, (bt, tx), (ch, wo, wr)) j).2.2.2.2.2)))).2.2.2.1)), (a 33, gI g 8 ((mkE kw hs kv rd sd (63 - j) (((rfL kw hs kv rd sd (dg, sm, (bt, tx), (ch, wo, wr)) j).1), ((rfL kw hs kv rd sd (dg, sm, (bt, tx), (ch, wo, wr)) j).2.1), (((rfL kw hs kv rd sd (dg, sm, (bt, tx), (ch, wo, wr)) j).2.2.1.1), ((rfL kw hs kv rd sd (dg, sm, (bt, tx), (ch, wo, wr)) j).2.2.1.2)), (((rfL kw hs kv rd sd (dg, sm, (bt, tx), (ch, wo, wr)) j).2.2.2.1), ((rfL kw hs kv rd sd (dg, sm, (bt, tx), (ch, wo, wr)) j).2.2.2.2.1), ((rfL kw hs kv rd sd (dg, sm, (bt, tx), (ch, wo, wr)) j).2.2.2.2.2)))).2.2.2.2.2))]) C (c_X5_make l g a th wk ro lo ne di ta ce fo ((rfL kw hs kv rd sd (dg, sm, (bt, tx), (ch, wo, wr)) j).2.2.1.1) hs kw kv ((rfL kw hs kv rd sd (dg, sm, (bt, tx), (ch, wo, wr)) j).1) ((rfL kw hs kv rd sd (dg, sm, (bt, tx), (ch, wo, wr)) j).2.1) rd ((rfL kw hs kv rd sd (dg, sm, (bt, tx), (ch, wo, wr)) j).2.2.1.2) ((rfL kw hs kv rd sd (dg, sm, (bt, tx), (ch, wo, wr)) j).2.2.2.2.1) ((rfL kw hs kv rd sd (dg, sm, (bt, tx), (ch, wo, wr)) j).2.2.2.1) ((rfL kw hs kv rd sd (dg, sm, (bt, tx), (ch, wo, wr)) j).2.2.2.2.2) sd (63 - j) (by omega) (by omega) (by omega)) (cwV 2 C.2.2.2.2.1 gX5_refresh_X5_make rfl rfl rfl (by decide +kernel) ⟨Nat.le_of_ble_eq_true rfl, Nat.le_of_ble_eq_true rfl⟩) 0 rfl rfl rfl [0, 1, 2, 3, 5, 6, 7, 8, 9, 10, 11] [4] rfl rfl rfl rfl rfl (by decide) rfl rfl (Nat.le_of_ble_eq_true rfl) dX5_refresh_27 ⟨Nat.le_of_ble_eq_true rfl, Nat.le_of_ble_eq_true rfl⟩ rfl ?_
        refine g_idec_n (d := 1) (L' := [(2, .int (nI ((63 - j) - 1))), (0, .ref (a 0)), (1, .int (nI sd))]) C dX5_refresh_30 0 rfl (by decide) (by omega) (by decide) rfl ?_
        refine g_goto (tgt := 20) C dX5_refresh_33 (by decide) ?_
        refine g_perm (w2 := [(a 0, oM a th (bI wk) ro (nI lo) (nI ne) (nI di) (bI ta) (nI ce) (nI fo) (nI ((mkE kw hs kv rd sd (63 - j) (((rfL kw hs kv rd sd (dg, sm, (bt, tx), (ch, wo, wr)) j).1), ((rfL kw hs kv rd sd (dg, sm, (bt, tx), (ch, wo, wr)) j).2.1), (((rfL kw hs kv rd sd (dg, sm, (bt, tx), (ch, wo, wr)) j).2.2.1.1), ((rfL kw hs kv rd sd (dg, sm, (bt, tx), (ch, wo, wr)) j).2.2.1.2)), (((rfL kw hs kv rd sd (dg, sm, (bt, tx), (ch, wo, wr)) j).2.2.2.1), ((rfL kw hs kv rd sd (dg, sm, (bt, tx), (ch, wo, wr)) j).2.2.2.2.1), ((rfL kw hs kv rd sd (dg, sm, (bt, tx), (ch, wo, wr)) j).2.2.2.2.2)))).2.2.1.1))), (a 2, gZ g 8 hs), (a 5, gZ g 512 kw), (a 6, gJ g 512 kv), (a 7, gZ g 2 (va_up fr sd true)), (a 8, gI g 4096 ((mkE kw hs kv rd sd (63 - j) (((rfL kw hs kv rd sd (dg, sm, (bt, tx), (ch, wo, wr)) j).1), ((rfL kw hs kv rd sd (dg, sm, (bt, tx), (ch, wo, wr)) j).2.1), (((rfL kw hs kv rd sd (dg, sm, (bt, tx), (ch, wo, wr)) j).2.2.1.1), ((rfL kw hs kv rd sd (dg, sm, (bt, tx), (ch, wo, wr)) j).2.2.1.2)), (((rfL kw hs kv rd sd (dg, sm, (bt, tx), (ch, wo, wr)) j).2.2.2.1), ((rfL kw hs kv rd sd (dg, sm, (bt, tx), (ch, wo, wr)) j).2.2.2.2.1), ((rfL kw hs kv rd sd (dg, sm, (bt, tx), (ch, wo, wr)) j).2.2.2.2.2)))).1)), (a 9, gI g 128 ((mkE kw hs kv rd sd (63 - j) (((rfL kw hs kv rd sd (dg, sm, (bt, tx), (ch, wo, wr)) j).1), ((rfL kw hs kv rd sd (dg, sm, (bt, tx), (ch, wo, wr)) j).2.1), (((rfL kw hs kv rd sd (dg, sm, (bt, tx), (ch, wo, wr)) j).2.2.1.1), ((rfL kw hs kv rd sd (dg, sm, (bt, tx), (ch, wo, wr)) j).2.2.1.2)), (((rfL kw hs kv rd sd (dg, sm, (bt, tx), (ch, wo, wr)) j).2.2.2.1), ((rfL kw hs kv rd sd (dg, sm, (bt, tx), (ch, wo, wr)) j).2.2.2.2.1), ((rfL kw hs kv rd sd (dg, sm, (bt, tx), (ch, wo, wr)) j).2.2.2.2.2)))).2.1)), (a 10, gI g 64 rd), (a 30, gI g 128 ((mkE kw hs kv rd sd (63 - j) (((rfL kw hs kv rd sd (dg, sm, (bt, tx), (ch, wo, wr)) j).1), ((rfL kw hs kv rd sd (dg, sm, (bt, tx), (ch, wo, wr)) j).2.1), (((rfL kw hs kv rd sd (dg, sm, (bt, tx), (ch, wo, wr)) j).2.2.1.1), ((rfL kw hs kv rd sd (dg, sm, (bt, tx), (ch, wo, wr)) j).2.2.1.2)), (((rfL kw hs kv rd sd (dg, sm, (bt, tx), (ch, wo, wr)) j).2.2.2.1), ((rfL kw hs kv rd sd (dg, sm, (bt, tx), (ch, wo, wr)) j).2.2.2.2.1), ((rfL kw hs kv rd sd (dg, sm, (bt, tx), (ch, wo, wr)) j).2.2.2.2.2)))).2.2.1.2)), (a 31, gI g 64 ((mkE kw hs kv rd sd (63 - j) (((rfL kw hs kv rd sd (dg, sm, (bt, tx), (ch, wo, wr)) j).1), ((rfL kw hs kv rd sd (dg, sm, (bt, tx), (ch, wo, wr)) j).2.1), (((rfL kw hs kv rd sd (dg, sm, (bt, tx), (ch, wo, wr)) j).2.2.1.1), ((rfL kw hs kv rd sd (dg, sm, (bt, tx), (ch, wo, wr)) j).2.2.1.2)), (((rfL kw hs kv rd sd (dg, sm, (bt, tx), (ch, wo, wr)) j).2.2.2.1), ((rfL kw hs kv rd sd (dg, sm, (bt, tx), (ch, wo, wr)) j).2.2.2.2.1), ((rfL kw hs kv rd sd (dg, sm, (bt, tx), (ch, wo, wr)) j).2.2.2.2.2)))).2.2.2.2.1)), (a 32, gI g 8 ((mkE kw hs kv rd sd (63 - j) (((rfL kw hs kv rd sd (dg, sm, (bt, tx), (ch, wo, wr)) j).1), ((rfL kw hs kv rd sd (dg, sm, (bt, tx), (ch, wo, wr)) j).2.1), (((rfL kw hs kv rd sd (dg, sm, (bt, tx), (ch, wo, wr)) j).2.2.1.1), ((rfL kw hs kv rd sd (dg, sm, (bt, tx), (ch, wo, wr)) j).2.2.1.2)), (((rfL kw hs kv rd sd (dg, sm, (bt, tx), (ch, wo, wr)) j).2.2.2.1), ((rfL kw hs kv rd sd (dg, sm, (bt, tx), (ch, wo, wr)) j).2.2.2.2.1), ((rfL kw hs kv rd sd (dg, sm, (bt, tx), (ch, wo, wr)) j).2.2.2.2.2)))).2.2.2.1)), (a 33, gI g 8 ((mkE kw hs kv rd sd (63 - j) (((rfL kw hs kv rd sd (dg, sm, (bt, tx), (ch, wo, wr)) j).1), ((rfL kw hs kv rd sd (dg, sm, (bt, tx), (ch, wo, wr)) j).2.1), (((rfL kw hs kv rd sd (dg, sm, (bt, tx), (ch, wo, wr)) j).2.2.1.1), ((rfL kw hs kv rd sd (dg, sm, (bt, tx), (ch, wo, wr)) j).2.2.1.2)), (((rfL kw hs kv rd sd (dg, sm, (bt, tx), (ch, wo, wr)) j).2.2.2.1), ((rfL kw hs kv rd sd (dg, sm, (bt, tx), (ch, wo, wr)) j).2.2.2.2.1), ((rfL kw hs kv rd sd (dg, sm, (bt, tx), (ch, wo, wr)) j).2.2.2.2.2)))).2.2.2.2.2))]) [1, 2, 3, 4, 0, 5, 6, 7, 8, 9, 10, 11] rfl rfl rfl ?_
        exact ihj (trivial)
  · skip
    refine g_vret C dX5_refresh_9 (by decide) (by decide) ?_
    refine ⟨rfl, ?_⟩
    rw [rfR_t c6]
set_option maxHeartbeats 4000000 in
set_option maxRecDepth 100000 in
theorem c_X5_learn (l : Launch) (g : gE) (a : Nat → Nat) (th : Int32) (wk : Bool) (ro : Int32) (lo ne di : Nat) (ta : Bool) (ce fo bt : Nat) (tr : Nat → Bool) (vw : Nat → Int64) (kw : Nat → Bool) (kv : Nat → Int64) (fr : Nat → Bool) (sd f t : Nat) (hs1 : sd < 2) (hf : f ≤ t) (ht : t ≤ 256) : Kt l g yX5_learn wsX5_learn 0 0 0 0 [.ref (a 0), .int (nI sd), .int (nI f), .int (nI t)] [(a 0, oM a th (bI wk) ro (nI lo) (nI ne) (nI di) (bI ta) (nI ce) (nI fo) (nI bt)), (a 3, gZ g 512 tr), (a 4, gJ g 512 vw), (a 5, gZ g 512 kw), (a 6, gJ g 512 kv), (a 7, gZ g 2 fr)] (kR none [(a 0, oM a th (bI wk) ro (nI lo) (nI ne) (nI di) (bI ta) (nI ce) (nI fo) (nI bt)), (a 3, gZ g 512 tr), (a 4, gJ g 512 vw), (a 5, gZ g 512 (lnK tr kw (256 * sd + f) (t - f))), (a 6, gJ g 512 (lnV vw kv (256 * sd + f) (t - f))), (a 7, gZ g 2 (va_up fr sd false))]) := by
  have hinX5 : ∀ w ∈ wsX50, w ∈ wsX5_learn := by
    intro w h
    unfold wsX5_learn
    simp only [List.mem_cons, List.mem_append]
    simp only [h, or_true, true_or]
  refine g_enter (cc := cX5_learn) (maxL := 5) (ret := none) (own := RX5) (L := [(0, .ref (a 0)), (1, .int (nI sd)), (2, .int (nI f)), (3, .int (nI t))]) (by decide) rfl rfl (Nat.le_of_ble_eq_true rfl) rfl ?_
  intro p e s m args below meth c hin0 C
  refine g_sipush (v := nI 256) C dX5_learn_0 (by decide) ?_
  refine g_iload_n C dX5_learn_3 rfl 1 rfl ?_
  refine g_imul_n C dX5_learn_4 ?_
  refine g_iload_n C dX5_learn_5 rfl 2 rfl ?_
  refine g_iadd_n C dX5_learn_6 ?_
  refine g_istore (L' := [(4, .int (nI ((256 * sd) + f))), (0, .ref (a 0)), (1, .int (nI sd)), (2, .int (nI f)), (3, .int (nI t))]) C dX5_learn_7 (by decide) rfl ?_
  refine g_up (t - f) 0 (fun _ => True) (fun j => [(4, .int (nI (256 * sd + f + j))), (0, .ref (a 0)), (1, .int (nI sd)), (2, .int (nI f)), (3, .int (nI t))]) (fun j => [(a 0, oM a th (bI wk) ro (nI lo) (nI ne) (nI di) (bI ta) (nI ce) (nI fo) (nI bt)), (a 3, gZ g 512 tr), (a 4, gJ g 512 vw), (a 5, gZ g 512 (lnK tr kw (256 * sd + f) j)), (a 6, gJ g 512 (lnV vw kv (256 * sd + f) j)), (a 7, gZ g 2 fr)]) (by omega) (trivial) ?_ ?_
  · intro hPj
    try dsimp only
    refine g_iload C dX5_learn_9 0 rfl ?_
    refine g_sipush (v := nI 256) C dX5_learn_11 (by decide) ?_
    refine g_iload_n C dX5_learn_14 rfl 2 rfl ?_
    refine g_imul_n C dX5_learn_15 ?_
    refine g_iload_n C dX5_learn_16 rfl 4 rfl ?_
    refine g_iadd_n C dX5_learn_17 ?_
    refine g_icmp_ge_n (tgt := 55) C dX5_learn_18 (by decide) (by omega) (by omega) (fun c18 => ?_) (fun c18 => ?_)
    · skip
      refine g_aload_n C dX5_learn_55 rfl 1 rfl ?_
      refine g_get C hinX5 0 rfl rfl 6 (by decide) (by decide +kernel) rfl rfl dX5_learn_56 ?_
      refine g_iload_n C dX5_learn_59 rfl 2 rfl ?_
      refine g_iconst (v := nI 0) C dX5_learn_60 (by decide) ?_
      refine g_st (st2 := [.int (bI false), .int (nI sd), .ref (a 7)]) rfl ?_
      refine g_zast (w2 := [(a 0, oM a th (bI wk) ro (nI lo) (nI ne) (nI di) (bI ta) (nI ce) (nI fo) (nI bt)), (a 3, gZ g 512 tr), (a 4, gJ g 512 vw), (a 5, gZ g 512 (lnK tr kw (256 * sd + f) (t - f))), (a 6, gJ g 512 (lnV vw kv (256 * sd + f) (t - f))), (a 7, gZ g 2 (va_up fr sd false))]) C 5 rfl (by omega) (by decide) rfl dX5_learn_61 ?_
      refine g_vret C dX5_learn_62 (by decide) (by decide) ?_
      exact ⟨rfl, rfl⟩
    · skip
      exfalso; omega
  · intro j hlj huj hPj ihj
    try dsimp only at ihj ⊢
    refine g_iload C dX5_learn_9 0 rfl ?_
    refine g_sipush (v := nI 256) C dX5_learn_11 (by decide) ?_
    refine g_iload_n C dX5_learn_14 rfl 2 rfl ?_
    refine g_imul_n C dX5_learn_15 ?_
    refine g_iload_n C dX5_learn_16 rfl 4 rfl ?_
    refine g_iadd_n C dX5_learn_17 ?_
    refine g_icmp_ge_n (tgt := 55) C dX5_learn_18 (by decide) (by omega) (by omega) (fun c18 => ?_) (fun c18 => ?_)
    · skip
      exfalso; omega
    · skip
      refine g_aload_n C dX5_learn_21 rfl 1 rfl ?_
      refine g_get C hinX5 0 rfl rfl 4 (by decide) (by decide +kernel) rfl rfl dX5_learn_22 ?_
      refine g_iload C dX5_learn_25 0 rfl ?_
      refine g_aload_n C dX5_learn_27 rfl 1 rfl ?_
      refine g_get C hinX5 0 rfl rfl 2 (by decide) (by decide +kernel) rfl rfl dX5_learn_28 ?_
      refine g_iload C dX5_learn_31 0 rfl ?_
      refine g_zald C 1 rfl (by omega) (by decide) dX5_learn_33 ?_
      refine g_zast (w2 := [(a 0, oM a th (bI wk) ro (nI lo) (nI ne) (nI di) (bI ta) (nI ce) (nI fo) (nI bt)), (a 3, gZ g 512 tr), (a 4, gJ g 512 vw), (a 5, gZ g 512 (va_up (lnK tr kw (256 * sd + f) j) (256 * sd + f + j) (tr (256 * sd + f + j)))), (a 6, gJ g 512 (lnV vw kv (256 * sd + f) j)), (a 7, gZ g 2 fr)]) C 3 rfl (by omega) (by decide) rfl dX5_learn_34 ?_
      refine g_aload_n C dX5_learn_35 rfl 1 rfl ?_
      refine g_get C hinX5 0 rfl rfl 5 (by decide) (by decide +kernel) rfl rfl dX5_learn_36 ?_
      refine g_iload C dX5_learn_39 0 rfl ?_
      refine g_aload_n C dX5_learn_41 rfl 1 rfl ?_
      refine g_get C hinX5 0 rfl rfl 3 (by decide) (by decide +kernel) rfl rfl dX5_learn_42 ?_
      refine g_iload C dX5_learn_45 0 rfl ?_
      refine g_lald C 2 rfl (by omega) (by decide) dX5_learn_47 ?_
      refine g_last (w2 := [(a 0, oM a th (bI wk) ro (nI lo) (nI ne) (nI di) (bI ta) (nI ce) (nI fo) (nI bt)), (a 3, gZ g 512 tr), (a 4, gJ g 512 vw), (a 5, gZ g 512 (va_up (lnK tr kw (256 * sd + f) j) (256 * sd + f + j) (tr (256 * sd + f + j)))), (a 6, gJ g 512 (va_up (lnV vw kv (256 * sd + f) j) (256 * sd + f + j) (vw (256 * sd + f + j)))), (a 7, gZ g 2 fr)]) C 4 rfl (by omega) (by decide) rfl dX5_learn_48 ?_
      refine g_iinc_n (d := 1) (L' := [(4, .int (nI ((256 * sd + f + j) + 1))), (0, .ref (a 0)), (1, .int (nI sd)), (2, .int (nI f)), (3, .int (nI t))]) C dX5_learn_49 0 rfl (by decide) (by decide) rfl ?_
      refine g_goto (tgt := 9) C dX5_learn_52 (by decide) ?_
      exact ihj (trivial)
set_option maxHeartbeats 4000000 in
set_option maxRecDepth 100000 in
theorem c_X5_learnLeaf (l : Launch) (g : gE) (a : Nat → Nat) (th : Int32) (wk : Bool) (ro : Int32) (lo ne di : Nat) (ta : Bool) (ce fo bt : Nat) (tr : Nat → Bool) (vw : Nat → Int64) (kw : Nat → Bool) (kv : Nat → Int64) (fr : Nat → Bool) (sd n u : Nat) (hs1 : sd < 2) (hn : n < 4) (hu : 1 ≤ u) (hu2 : u ≤ 64) : Kt l g yX5_learnLeaf wsX5_learnLeaf 1 24 0 0 [.ref (a 0), .int (nI sd), .int (nI n), .int (nI u)] [(a 0, oM a th (bI wk) ro (nI lo) (nI ne) (nI di) (bI ta) (nI ce) (nI fo) (nI bt)), (a 3, gZ g 512 tr), (a 4, gJ g 512 vw), (a 5, gZ g 512 kw), (a 6, gJ g 512 kv), (a 7, gZ g 2 fr)] (kR none [(a 0, oM a th (bI wk) ro (nI lo) (nI ne) (nI di) (bI ta) (nI ce) (nI fo) (nI bt)), (a 3, gZ g 512 tr), (a 4, gJ g 512 vw), (a 5, gZ g 512 (lnK tr kw (256 * sd + (64 * n + (u - 1) / 8 * 8)) 8)), (a 6, gJ g 512 (lnV vw kv (256 * sd + (64 * n + (u - 1) / 8 * 8)) 8)), (a 7, gZ g 2 (va_up fr sd false))]) := by
  refine g_enter (cc := cX5_learnLeaf) (maxL := 5) (ret := none) (own := RX5) (L := [(0, .ref (a 0)), (1, .int (nI sd)), (2, .int (nI n)), (3, .int (nI u))]) (by decide) rfl rfl (Nat.le_of_ble_eq_true rfl) rfl ?_
  intro p e s m args below meth c hin0 C
  refine g_bipush (v := nI 64) C dX5_learnLeaf_0 (by decide) ?_
  refine g_iload_n C dX5_learnLeaf_2 rfl 2 rfl ?_
  refine g_imul_n C dX5_learnLeaf_3 ?_
  refine g_iload_n C dX5_learnLeaf_4 rfl 3 rfl ?_
  refine g_iconst (v := nI 1) C dX5_learnLeaf_5 (by decide) ?_
  refine g_isub_n C dX5_learnLeaf_6 (by omega) ?_
  refine g_bipush (v := nI 8) C dX5_learnLeaf_7 (by decide) ?_
  refine g_idiv_n C dX5_learnLeaf_9 (by omega) (by omega) (by omega) ?_
  refine g_bipush (v := nI 8) C dX5_learnLeaf_10 (by decide) ?_
  refine g_imul_n C dX5_learnLeaf_12 ?_
  refine g_iadd_n C dX5_learnLeaf_13 ?_
  refine g_istore (L' := [(4, .int (nI ((64 * n) + (((u - 1) / 8) * 8)))), (0, .ref (a 0)), (1, .int (nI sd)), (2, .int (nI n)), (3, .int (nI u))]) C dX5_learnLeaf_14 (by decide) rfl ?_
  refine g_aload_n C dX5_learnLeaf_16 rfl 1 rfl ?_
  refine g_iload_n C dX5_learnLeaf_17 rfl 2 rfl ?_
  refine g_iload C dX5_learnLeaf_18 0 rfl ?_
  refine g_iload C dX5_learnLeaf_20 0 rfl ?_
  refine g_bipush (v := nI 8) C dX5_learnLeaf_22 (by decide) ?_
  refine g_iadd_n C dX5_learnLeaf_24 ?_
  refine g_callV0 (wr := []) (w2 := [(a 0, oM a th (bI wk) ro (nI lo) (nI ne) (nI di) (bI ta) (nI ce) (nI fo) (nI bt)), (a 3, gZ g 512 tr), (a 4, gJ g 512 vw), (a 5, gZ g 512 (lnK tr kw (256 * sd + ((64 * n) + (((u - 1) / 8) * 8))) ((((64 * n) + (((u - 1) / 8) * 8)) + 8) - ((64 * n) + (((u - 1) / 8) * 8))))), (a 6, gJ g 512 (lnV vw kv (256 * sd + ((64 * n) + (((u - 1) / 8) * 8))) ((((64 * n) + (((u - 1) / 8) * 8)) + 8) - ((64 * n) + (((u - 1) / 8) * 8))))), (a 7, gZ g 2 (va_up fr sd false))]) C (c_X5_learn l g a th wk ro lo ne di ta ce fo bt tr vw kw kv fr sd ((64 * n) + (((u - 1) / 8) * 8)) (((64 * n) + (((u - 1) / 8) * 8)) + 8) (by omega) (by omega) (by omega)) (cwV 3 C.2.2.2.2.1 gX5_learnLeaf_X5_learn rfl rfl rfl (by decide +kernel) ⟨Nat.le_of_ble_eq_true rfl, Nat.le_of_ble_eq_true rfl⟩) 0 rfl rfl rfl [0, 1, 2, 3, 4, 5] [] rfl rfl rfl rfl rfl (by decide) rfl rfl (Nat.le_of_ble_eq_true rfl) dX5_learnLeaf_25 ⟨Nat.le_of_ble_eq_true rfl, Nat.le_of_ble_eq_true rfl⟩ rfl ?_
  refine g_vret C dX5_learnLeaf_28 (by decide) (by decide) ?_
  refine ⟨rfl, ?_⟩
  rw [show (64 * n + (u - 1) / 8 * 8) + 8 - (64 * n + (u - 1) / 8 * 8) = 8 by omega]
