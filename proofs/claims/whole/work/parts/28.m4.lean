set_option maxHeartbeats 4000000 in
set_option maxRecDepth 100000 in
theorem c_X5_hash (l : Launch) (g : gE) (a : Nat → Nat) (th : Int32) (wk : Bool) (ro : Int32) (lo ne di : Nat) (ta : Bool) (ce fo bt : Nat) (tx : Nat → Int32) (j k : Nat) (v : Int64) (hk : k < 256) : Kt l g yX5_hash wsX5_hash 2 45 0 0 [.ref (a 0), .int (nI j), .int (nI k), .long v] [(a 0, oM a th (bI wk) ro (nI lo) (nI ne) (nI di) (bI ta) (nI ce) (nI fo) (nI bt)), (a 30, gI g 128 tx)] (kR (some (.int (hsh j k v))) [(a 0, oM a th (bI wk) ro (nI lo) (nI ne) (nI di) (bI ta) (nI ce) (nI fo) (nI 11)), (a 30, gI g 128 (hsT j k v tx))]) := by
  have hinX5 : ∀ w ∈ wsX50, w ∈ wsX5_hash := by
    intro w h
    unfold wsX5_hash
    simp only [List.mem_cons, List.mem_append]
    simp only [h, or_true, true_or]
  refine g_enter (cc := cX5_hash) (maxL := 5) (ret := (some .int)) (own := RX5) (L := [(0, .ref (a 0)), (1, .int (nI j)), (2, .int (nI k)), (3, .long v)]) (by decide) rfl rfl (Nat.le_of_ble_eq_true rfl) rfl ?_
  intro p e s m args below meth c hin0 C
  refine g_aload_n C dX5_hash_0 rfl 0 rfl ?_
  refine g_iconst (v := nI 0) C dX5_hash_1 (by decide) ?_
  refine g_put (ty := .int) (w2 := [(a 0, oM a th (bI wk) ro (nI lo) (nI ne) (nI di) (bI ta) (nI ce) (nI fo) (nI 0)), (a 30, gI g 128 tx)]) C hinX5 0 rfl rfl 28 (by decide) (by decide +kernel) rfl tyX5 tyX5_ok nmX5 rfl (by decide +kernel) rfl rfl (Nat.le_of_ble_eq_true rfl) rfl dX5_hash_2 ?_
  refine g_aload_n C dX5_hash_5 rfl 0 rfl ?_
  refine g_iload_n C dX5_hash_6 rfl 1 rfl ?_
  refine g_callV0 (wr := []) (w2 := [(a 0, oM a th (bI wk) ro (nI lo) (nI ne) (nI di) (bI ta) (nI ce) (nI fo) (nI (0 + 1))), (a 30, gI g 128 (va_up tx 0 ((nI j) &&& nI 255)))]) C (c_X5_put l g a th wk ro lo ne di ta ce fo 0 tx (nI j) (by omega)) (cwV 1 C.2.2.2.2.1 gX5_hash_X5_put rfl rfl rfl (by decide +kernel) ⟨Nat.le_of_ble_eq_true rfl, Nat.le_of_ble_eq_true rfl⟩) 0 rfl rfl rfl [0, 1] [] rfl rfl rfl rfl rfl (by decide) rfl rfl (Nat.le_of_ble_eq_true rfl) dX5_hash_7 ⟨Nat.le_of_ble_eq_true rfl, Nat.le_of_ble_eq_true rfl⟩ rfl ?_
  refine g_aload_n C dX5_hash_10 rfl 0 rfl ?_
  refine g_iload_n C dX5_hash_11 rfl 2 rfl ?_
  refine g_lload_n C dX5_hash_12 rfl 3 rfl ?_
  refine g_callV0 (wr := []) (w2 := [(a 0, oM a th (bI wk) ro (nI lo) (nI ne) (nI di) (bI ta) (nI ce) (nI fo) (nI ((0 + 1) + 1 + 1 + 8))), (a 30, gI g 128 (rowT v k (0 + 1) (va_up tx 0 ((nI j) &&& nI 255)) 8))]) C (c_X5_putRow l g a th wk ro lo ne di ta ce fo (0 + 1) (va_up tx 0 ((nI j) &&& nI 255)) k v (by omega) (by omega)) (cwV 2 C.2.2.2.2.1 gX5_hash_X5_putRow rfl rfl rfl (by decide +kernel) ⟨Nat.le_of_ble_eq_true rfl, Nat.le_of_ble_eq_true rfl⟩) 0 rfl rfl rfl [0, 1] [] rfl rfl rfl rfl rfl (by decide) rfl rfl (Nat.le_of_ble_eq_true rfl) dX5_hash_13 ⟨Nat.le_of_ble_eq_true rfl, Nat.le_of_ble_eq_true rfl⟩ rfl ?_
  refine g_aload_n C dX5_hash_16 rfl 0 rfl ?_
  refine g_callV1 (wr := []) (w2 := [(a 0, oM a th (bI wk) ro (nI lo) (nI ne) (nI di) (bI ta) (nI ce) (nI fo) (nI ((0 + 1) + 1 + 1 + 8))), (a 30, gI g 128 (rowT v k (0 + 1) (va_up tx 0 ((nI j) &&& nI 255)) 8))]) C (c_X5_fold l g a th wk ro lo ne di ta ce fo ((0 + 1) + 1 + 1 + 8) (rowT v k (0 + 1) (va_up tx 0 ((nI j) &&& nI 255)) 8) (by omega)) (cwV 0 C.2.2.2.2.1 gX5_hash_X5_fold rfl rfl rfl (by decide +kernel) ⟨Nat.le_of_ble_eq_true rfl, Nat.le_of_ble_eq_true rfl⟩) 0 rfl rfl rfl [0, 1] [] rfl rfl rfl rfl rfl (by decide) rfl rfl (Nat.le_of_ble_eq_true rfl) dX5_hash_17 ⟨Nat.le_of_ble_eq_true rfl, Nat.le_of_ble_eq_true rfl⟩ rfl ?_
  refine g_iret C dX5_hash_20 (by decide) (by decide) ?_
  refine ⟨congrArg (fun b => some (Value.int b)) ?_, rfl⟩
  exact hsM_eq j k v tx
set_option maxHeartbeats 4000000 in
set_option maxRecDepth 100000 in
theorem c_X5_mix (l : Launch) (g : gE) (a : Nat → Nat) (th : Int32) (wk : Bool) (ro : Int32) (lo ne di : Nat) (ta : Bool) (ce fo bt : Nat) (co : Nat → Int32) (ky : Nat → Int32) (vl : Nat → Int64) (mk : Nat → Int32) (tx : Nat → Int32) (k : Nat) (v : Int64) (sg : Int32) (h1 : 6 ≤ ce) (h2 : ce ≤ 63) (hk : k < 256) : Kt l g yX5_mix wsX5_mix 3 69 0 0 [.ref (a 0), .int (nI k), .long v, .int sg] [(a 0, oM a th (bI wk) ro (nI lo) (nI ne) (nI di) (bI ta) (nI ce) (nI fo) (nI bt)), (a 21, gI g 63 co), (a 22, gI g 63 ky), (a 23, gJ g 63 vl), (a 24, gI g 63 mk), (a 30, gI g 128 tx)] (kR none [(a 0, oM a th (bI wk) ro (nI lo) (nI ne) (nI di) (bI ta) (nI ce) (nI fo) (nI 11)), (a 21, gI g 63 ((tnL (ce / 3) k v sg (co, ky, vl, mk)).1)), (a 22, gI g 63 ((tnL (ce / 3) k v sg (co, ky, vl, mk)).2.1)), (a 23, gJ g 63 ((tnL (ce / 3) k v sg (co, ky, vl, mk)).2.2.1)), (a 24, gI g 63 ((tnL (ce / 3) k v sg (co, ky, vl, mk)).2.2.2)), (a 30, gI g 128 (mxT3 k v tx 3))]) := by
  have hinX5 : ∀ w ∈ wsX50, w ∈ wsX5_mix := by
    intro w h
    unfold wsX5_mix
    simp only [List.mem_cons, List.mem_append]
    simp only [h, or_true, true_or]
  refine g_enter (cc := cX5_mix) (maxL := 9) (ret := none) (own := RX5) (L := [(0, .ref (a 0)), (1, .int (nI k)), (2, .long v), (4, .int sg)]) (by decide) rfl rfl (Nat.le_of_ble_eq_true rfl) rfl ?_
  intro p e s m args below meth c hin0 C
  refine g_aload_n C dX5_mix_0 rfl 0 rfl ?_
  refine g_get C hinX5 0 rfl rfl 19 (by decide) (by decide +kernel) rfl rfl dX5_mix_1 ?_
  refine g_iconst (v := nI 3) C dX5_mix_4 (by decide) ?_
  refine g_idiv_n C dX5_mix_5 (by omega) (by omega) (by omega) ?_
  refine g_istore (L' := [(5, .int (nI (ce / 3))), (0, .ref (a 0)), (1, .int (nI k)), (2, .long v), (4, .int sg)]) C dX5_mix_6 (by decide) rfl ?_
  refine g_aload_n C dX5_mix_8 rfl 1 rfl ?_
  refine g_iconst (v := nI 3) C dX5_mix_9 (by decide) ?_
  refine g_iload_n C dX5_mix_10 rfl 2 rfl ?_
  refine g_lload_n C dX5_mix_11 rfl 3 rfl ?_
  refine g_callV1 (wr := [(a 21, gI g 63 co), (a 22, gI g 63 ky), (a 23, gJ g 63 vl), (a 24, gI g 63 mk)]) (w2 := [(a 21, gI g 63 co), (a 22, gI g 63 ky), (a 23, gJ g 63 vl), (a 24, gI g 63 mk), (a 0, oM a th (bI wk) ro (nI lo) (nI ne) (nI di) (bI ta) (nI ce) (nI fo) (nI 11)), (a 30, gI g 128 (hsT 3 k v tx))]) C (c_X5_hash l g a th wk ro lo ne di ta ce fo bt tx 3 k v (by omega)) (cwV 3 C.2.2.2.2.1 gX5_mix_X5_hash rfl rfl rfl (by decide +kernel) ⟨Nat.le_of_ble_eq_true rfl, Nat.le_of_ble_eq_true rfl⟩) 0 rfl rfl rfl [0, 5] [1, 2, 3, 4] rfl rfl rfl rfl rfl (by decide) rfl rfl (Nat.le_of_ble_eq_true rfl) dX5_mix_12 ⟨Nat.le_of_ble_eq_true rfl, Nat.le_of_ble_eq_true rfl⟩ rfl ?_
  refine g_istore (L' := [(6, .int (hsh 3 k v)), (5, .int (nI (ce / 3))), (0, .ref (a 0)), (1, .int (nI k)), (2, .long v), (4, .int sg)]) C dX5_mix_15 (by decide) rfl ?_
  refine g_iconst (v := nI 0) C dX5_mix_17 (by decide) ?_
  refine g_istore (L' := [(7, .int (nI 0)), (6, .int (hsh 3 k v)), (5, .int (nI (ce / 3))), (0, .ref (a 0)), (1, .int (nI k)), (2, .long v), (4, .int sg)]) C dX5_mix_18 (by decide) rfl ?_
  refine g_L (L2 := [(0, .ref (a 0)), (1, .int (nI k)), (2, .long v), (4, .int sg), (5, .int (nI (ce / 3))), (6, .int (hsh 3 k v)), (7, .int (nI 0))]) [3, 4, 5, 6, 2, 1, 0] rfl ?_
  refine g_up 3 0 (fun _ => True) (fun j => [(0, .ref (a 0)), (1, .int (nI k)), (2, .long v), (4, .int sg), (5, .int (nI (ce / 3))), (6, .int (hsh 3 k v)), (7, .int (nI j))]) (fun j => [(a 21, gI g 63 ((it (tnS (ce / 3) k v sg) (co, ky, vl, mk) j).1)), (a 22, gI g 63 ((it (tnS (ce / 3) k v sg) (co, ky, vl, mk) j).2.1)), (a 23, gJ g 63 ((it (tnS (ce / 3) k v sg) (co, ky, vl, mk) j).2.2.1)), (a 24, gI g 63 ((it (tnS (ce / 3) k v sg) (co, ky, vl, mk) j).2.2.2)), (a 0, oM a th (bI wk) ro (nI lo) (nI ne) (nI di) (bI ta) (nI ce) (nI fo) (nI 11)), (a 30, gI g 128 (mxT3 k v tx j))]) (by omega) (trivial) ?_ ?_
  · intro hPj
    try dsimp only
    refine g_iload C dX5_mix_20 6 rfl ?_
    refine g_iconst (v := nI 3) C dX5_mix_22 (by decide) ?_
    refine g_icmp_ge_n (tgt := 104) C dX5_mix_23 (by decide) (by omega) (by omega) (fun c23 => ?_) (fun c23 => ?_)
    · skip
      refine g_perm (w2 := [(a 0, oM a th (bI wk) ro (nI lo) (nI ne) (nI di) (bI ta) (nI ce) (nI fo) (nI 11)), (a 21, gI g 63 ((it (tnS (ce / 3) k v sg) (co, ky, vl, mk) 3).1)), (a 22, gI g 63 ((it (tnS (ce / 3) k v sg) (co, ky, vl, mk) 3).2.1)), (a 23, gJ g 63 ((it (tnS (ce / 3) k v sg) (co, ky, vl, mk) 3).2.2.1)), (a 24, gI g 63 ((it (tnS (ce / 3) k v sg) (co, ky, vl, mk) 3).2.2.2)), (a 30, gI g 128 (mxT3 k v tx 3))]) [4, 0, 1, 2, 3, 5] rfl rfl rfl ?_
      refine g_vret C dX5_mix_104 (by decide) (by decide) ?_
      exact ⟨rfl, rfl⟩
    · skip
      exfalso; omega
  · intro j hlj huj hPj ihj
    try dsimp only at ihj ⊢
    have hc := cel_lt (h := hsh j k v) (show 0 < ce / 3 by omega) huj (show ce / 3 ≤ 21 by omega)
    refine g_iload C dX5_mix_20 6 rfl ?_
    refine g_iconst (v := nI 3) C dX5_mix_22 (by decide) ?_
    refine g_icmp_ge_n (tgt := 104) C dX5_mix_23 (by decide) (by omega) (by omega) (fun c23 => ?_) (fun c23 => ?_)
    · skip
      exfalso; omega
    · skip
      refine g_iload C dX5_mix_26 6 rfl ?_
      refine g_iload C dX5_mix_28 4 rfl ?_
      refine g_imul_n C dX5_mix_30 ?_
      refine g_aload_n C dX5_mix_31 rfl 0 rfl ?_
      refine g_iload C dX5_mix_32 6 rfl ?_
      refine g_iload_n C dX5_mix_34 rfl 1 rfl ?_
      refine g_lload_n C dX5_mix_35 rfl 2 rfl ?_
      refine g_callV1 (wr := [(a 21, gI g 63 ((it (tnS (ce / 3) k v sg) (co, ky, vl, mk) j).1)), (a 22, gI g 63 ((it (tnS (ce / 3) k v sg) (co, ky, vl, mk) j).2.1)), (a 23, gJ g 63 ((it (tnS (ce / 3) k v sg) (co, ky, vl, mk) j).2.2.1)), (a 24, gI g 63 ((it (tnS (ce / 3) k v sg) (co, ky, vl, mk) j).2.2.2))]) (w2 := [(a 21, gI g 63 ((it (tnS (ce / 3) k v sg) (co, ky, vl, mk) j).1)), (a 22, gI g 63 ((it (tnS (ce / 3) k v sg) (co, ky, vl, mk) j).2.1)), (a 23, gJ g 63 ((it (tnS (ce / 3) k v sg) (co, ky, vl, mk) j).2.2.1)), (a 24, gI g 63 ((it (tnS (ce / 3) k v sg) (co, ky, vl, mk) j).2.2.2)), (a 0, oM a th (bI wk) ro (nI lo) (nI ne) (nI di) (bI ta) (nI ce) (nI fo) (nI 11)), (a 30, gI g 128 (hsT j k v (mxT3 k v tx j)))]) C (c_X5_hash l g a th wk ro lo ne di ta ce fo 11 (mxT3 k v tx j) j k v (by omega)) (cwV 3 C.2.2.2.2.1 gX5_mix_X5_hash rfl rfl rfl (by decide +kernel) ⟨Nat.le_of_ble_eq_true rfl, Nat.le_of_ble_eq_true rfl⟩) 4 rfl rfl rfl [4, 5] [0, 1, 2, 3] rfl rfl rfl rfl rfl (by decide) rfl rfl (Nat.le_of_ble_eq_true rfl) dX5_mix_36 ⟨Nat.le_of_ble_eq_true rfl, Nat.le_of_ble_eq_true rfl⟩ rfl ?_
      refine g_i2l C dX5_mix_39 ?_
      refine g_ldc2 (v := 4294967295) C (by decide +kernel) dX5_mix_40 ?_
      refine g_land C dX5_mix_43 ?_
      refine g_iload C dX5_mix_44 4 rfl ?_
      refine g_i2l C dX5_mix_46 ?_
      refine g_lrem C dX5_mix_47 (by rw [nI_l (by omega)]; intro h; have := (pk_lEQ (a := ce / 3) (b := 0) (by omega) (by decide)).mp h; omega) ?_
      refine g_l2i C dX5_mix_48 ?_
      refine g_iadd C dX5_mix_49 ?_
      refine g_st (st2 := [.int (nI (cel (ce / 3) j (hsh j k v)))]) (by rw [celE (by omega) (by omega)]) ?_
      refine g_istore (L' := [(8, .int (nI (cel (ce / 3) j (hsh j k v)))), (0, .ref (a 0)), (1, .int (nI k)), (2, .long v), (4, .int sg), (5, .int (nI (ce / 3))), (6, .int (hsh 3 k v)), (7, .int (nI j))]) C dX5_mix_50 (by decide) rfl ?_
      refine g_aload_n C dX5_mix_52 rfl 1 rfl ?_
      refine g_get C hinX5 4 rfl rfl 20 (by decide) (by decide +kernel) rfl rfl dX5_mix_53 ?_
      refine g_iload C dX5_mix_56 0 rfl ?_
      refine g_dup2 C dX5_mix_58 rfl rfl ?_
      refine g_iald C 0 rfl (by omega) (by decide) dX5_mix_59 ?_
      refine g_iload C dX5_mix_60 4 rfl ?_
      refine g_iadd C dX5_mix_62 ?_
      refine g_iast (w2 := [(a 21, gI g 63 (va_up ((it (tnS (ce / 3) k v sg) (co, ky, vl, mk) j).1) (cel (ce / 3) j (hsh j k v)) ((((it (tnS (ce / 3) k v sg) (co, ky, vl, mk) j).1) (cel (ce / 3) j (hsh j k v))) + sg))), (a 22, gI g 63 ((it (tnS (ce / 3) k v sg) (co, ky, vl, mk) j).2.1)), (a 23, gJ g 63 ((it (tnS (ce / 3) k v sg) (co, ky, vl, mk) j).2.2.1)), (a 24, gI g 63 ((it (tnS (ce / 3) k v sg) (co, ky, vl, mk) j).2.2.2)), (a 0, oM a th (bI wk) ro (nI lo) (nI ne) (nI di) (bI ta) (nI ce) (nI fo) (nI 11)), (a 30, gI g 128 (hsT j k v (mxT3 k v tx j)))]) C 0 rfl (by omega) (by decide) rfl dX5_mix_63 ?_
      refine g_aload_n C dX5_mix_64 rfl 1 rfl ?_
      refine g_get C hinX5 4 rfl rfl 21 (by decide) (by decide +kernel) rfl rfl dX5_mix_65 ?_
      refine g_iload C dX5_mix_68 0 rfl ?_
      refine g_dup2 C dX5_mix_70 rfl rfl ?_
      refine g_iald C 1 rfl (by omega) (by decide) dX5_mix_71 ?_
      refine g_iload_n C dX5_mix_72 rfl 2 rfl ?_
      refine g_ixor C dX5_mix_73 ?_
      refine g_iast (w2 := [(a 21, gI g 63 (va_up ((it (tnS (ce / 3) k v sg) (co, ky, vl, mk) j).1) (cel (ce / 3) j (hsh j k v)) ((((it (tnS (ce / 3) k v sg) (co, ky, vl, mk) j).1) (cel (ce / 3) j (hsh j k v))) + sg))), (a 22, gI g 63 (va_up ((it (tnS (ce / 3) k v sg) (co, ky, vl, mk) j).2.1) (cel (ce / 3) j (hsh j k v)) ((((it (tnS (ce / 3) k v sg) (co, ky, vl, mk) j).2.1) (cel (ce / 3) j (hsh j k v))) ^^^ (nI k)))), (a 23, gJ g 63 ((it (tnS (ce / 3) k v sg) (co, ky, vl, mk) j).2.2.1)), (a 24, gI g 63 ((it (tnS (ce / 3) k v sg) (co, ky, vl, mk) j).2.2.2)), (a 0, oM a th (bI wk) ro (nI lo) (nI ne) (nI di) (bI ta) (nI ce) (nI fo) (nI 11)), (a 30, gI g 128 (hsT j k v (mxT3 k v tx j)))]) C 1 rfl (by omega) (by decide) rfl dX5_mix_74 ?_
      refine g_aload_n C dX5_mix_75 rfl 1 rfl ?_
      refine g_get C hinX5 4 rfl rfl 22 (by decide) (by decide +kernel) rfl rfl dX5_mix_76 ?_
      refine g_iload C dX5_mix_79 0 rfl ?_
      refine g_dup2 C dX5_mix_81 rfl rfl ?_
      refine g_lald C 2 rfl (by omega) (by decide) dX5_mix_82 ?_
      refine g_lload_n C dX5_mix_83 rfl 3 rfl ?_
      refine g_lxor C dX5_mix_84 ?_
      refine g_last (w2 := [(a 21, gI g 63 (va_up ((it (tnS (ce / 3) k v sg) (co, ky, vl, mk) j).1) (cel (ce / 3) j (hsh j k v)) ((((it (tnS (ce / 3) k v sg) (co, ky, vl, mk) j).1) (cel (ce / 3) j (hsh j k v))) + sg))), (a 22, gI g 63 (va_up ((it (tnS (ce / 3) k v sg) (co, ky, vl, mk) j).2.1) (cel (ce / 3) j (hsh j k v)) ((((it (tnS (ce / 3) k v sg) (co, ky, vl, mk) j).2.1) (cel (ce / 3) j (hsh j k v))) ^^^ (nI k)))), (a 23, gJ g 63 (va_up ((it (tnS (ce / 3) k v sg) (co, ky, vl, mk) j).2.2.1) (cel (ce / 3) j (hsh j k v)) ((((it (tnS (ce / 3) k v sg) (co, ky, vl, mk) j).2.2.1) (cel (ce / 3) j (hsh j k v))) ^^^ v))), (a 24, gI g 63 ((it (tnS (ce / 3) k v sg) (co, ky, vl, mk) j).2.2.2)), (a 0, oM a th (bI wk) ro (nI lo) (nI ne) (nI di) (bI ta) (nI ce) (nI fo) (nI 11)), (a 30, gI g 128 (hsT j k v (mxT3 k v tx j)))]) C 2 rfl (by omega) (by decide) rfl dX5_mix_85 ?_
      refine g_aload_n C dX5_mix_86 rfl 1 rfl ?_
      refine g_get C hinX5 4 rfl rfl 23 (by decide) (by decide +kernel) rfl rfl dX5_mix_87 ?_
      refine g_iload C dX5_mix_90 0 rfl ?_
      refine g_dup2 C dX5_mix_92 rfl rfl ?_
      refine g_iald C 3 rfl (by omega) (by decide) dX5_mix_93 ?_
      refine g_iload C dX5_mix_94 6 rfl ?_
      refine g_ixor C dX5_mix_96 ?_
      refine g_iast (w2 := [(a 21, gI g 63 (va_up ((it (tnS (ce / 3) k v sg) (co, ky, vl, mk) j).1) (cel (ce / 3) j (hsh j k v)) ((((it (tnS (ce / 3) k v sg) (co, ky, vl, mk) j).1) (cel (ce / 3) j (hsh j k v))) + sg))), (a 22, gI g 63 (va_up ((it (tnS (ce / 3) k v sg) (co, ky, vl, mk) j).2.1) (cel (ce / 3) j (hsh j k v)) ((((it (tnS (ce / 3) k v sg) (co, ky, vl, mk) j).2.1) (cel (ce / 3) j (hsh j k v))) ^^^ (nI k)))), (a 23, gJ g 63 (va_up ((it (tnS (ce / 3) k v sg) (co, ky, vl, mk) j).2.2.1) (cel (ce / 3) j (hsh j k v)) ((((it (tnS (ce / 3) k v sg) (co, ky, vl, mk) j).2.2.1) (cel (ce / 3) j (hsh j k v))) ^^^ v))), (a 24, gI g 63 (va_up ((it (tnS (ce / 3) k v sg) (co, ky, vl, mk) j).2.2.2) (cel (ce / 3) j (hsh j k v)) ((((it (tnS (ce / 3) k v sg) (co, ky, vl, mk) j).2.2.2) (cel (ce / 3) j (hsh j k v))) ^^^ (hsh 3 k v)))), (a 0, oM a th (bI wk) ro (nI lo) (nI ne) (nI di) (bI ta) (nI ce) (nI fo) (nI 11)), (a 30, gI g 128 (hsT j k v (mxT3 k v tx j)))]) C 3 rfl (by omega) (by decide) rfl dX5_mix_97 ?_
      refine g_iinc_n (d := 1) (L' := [(7, .int (nI (j + 1))), (8, .int (nI (cel (ce / 3) j (hsh j k v)))), (0, .ref (a 0)), (1, .int (nI k)), (2, .long v), (4, .int sg), (5, .int (nI (ce / 3))), (6, .int (hsh 3 k v))]) C dX5_mix_98 7 rfl (by decide) (by decide) rfl ?_
      refine g_goto (tgt := 20) C dX5_mix_101 (by decide) ?_
      refine g_L (L2 := [(0, .ref (a 0)), (1, .int (nI k)), (2, .long v), (4, .int sg), (5, .int (nI (ce / 3))), (6, .int (hsh 3 k v)), (7, .int (nI (j + 1)))]) [2, 3, 4, 5, 6, 7, 0] rfl ?_
      exact ihj (trivial)
set_option maxHeartbeats 4000000 in
set_option maxRecDepth 100000 in
theorem c_X5_pure (l : Launch) (g : gE) (a : Nat → Nat) (th : Int32) (wk : Bool) (ro : Int32) (lo ne di : Nat) (ta : Bool) (ce fo bt : Nat) (co : Nat → Int32) (ky : Nat → Int32) (vl : Nat → Int64) (mk : Nat → Int32) (tx : Nat → Int32) (h1 : 6 ≤ ce) (h2 : ce ≤ 63) (hb : bt ≤ 128) : Kt l g yX5_pure wsX5_pure 3 69 0 0 [.ref (a 0)] [(a 0, oM a th (bI wk) ro (nI lo) (nI ne) (nI di) (bI ta) (nI ce) (nI fo) (nI bt)), (a 21, gI g 63 co), (a 22, gI g 63 ky), (a 23, gJ g 63 vl), (a 24, gI g 63 mk), (a 30, gI g 128 tx)] (kR (some (.int (fpI (pur (co, ky, vl, mk)) ce))) [(a 0, oM a th (bI wk) ro (nI lo) (nI ne) (nI di) (bI ta) (nI ce) (nI fo) (nI ((puT (co, ky, vl, mk) (bt, tx) (puE (co, ky, vl, mk) ce)).1))), (a 21, gI g 63 co), (a 22, gI g 63 ky), (a 23, gJ g 63 vl), (a 24, gI g 63 mk), (a 30, gI g 128 ((puT (co, ky, vl, mk) (bt, tx) (puE (co, ky, vl, mk) ce)).2))]) := by
  have hinX5 : ∀ w ∈ wsX50, w ∈ wsX5_pure := by
    intro w h
    unfold wsX5_pure
    simp only [List.mem_cons, List.mem_append]
    simp only [h, or_true, true_or]
  refine g_enter (cc := cX5_pure) (maxL := 2) (ret := (some .int)) (own := RX5) (L := [(0, .ref (a 0))]) (by decide) rfl rfl (Nat.le_of_ble_eq_true rfl) rfl ?_
  intro p e s m args below meth c hin0 C
  refine g_iconst (v := nI 0) C dX5_pure_0 (by decide) ?_
  refine g_istore_n (L' := [(1, .int (nI 0)), (0, .ref (a 0))]) C dX5_pure_1 rfl (by decide) rfl ?_
  refine g_up ce 0 (fun j => ∀ q, q < j → pur (co, ky, vl, mk) q = false) (fun j => [(1, .int (nI j)), (0, .ref (a 0))]) (fun j => [(a 0, oM a th (bI wk) ro (nI lo) (nI ne) (nI di) (bI ta) (nI ce) (nI fo) (nI ((puT (co, ky, vl, mk) (bt, tx) j).1))), (a 21, gI g 63 co), (a 22, gI g 63 ky), (a 23, gJ g 63 vl), (a 24, gI g 63 mk), (a 30, gI g 128 ((puT (co, ky, vl, mk) (bt, tx) j).2))]) (by omega) (fun q hq => absurd hq (Nat.not_lt_zero q)) ?_ ?_
  · intro hPj
    try dsimp only
    refine g_iload_n C dX5_pure_2 rfl 0 rfl ?_
    refine g_aload_n C dX5_pure_3 rfl 1 rfl ?_
    refine g_get C hinX5 0 rfl rfl 19 (by decide) (by decide +kernel) rfl rfl dX5_pure_4 ?_
    refine g_icmp_ge_n (tgt := 80) C dX5_pure_7 (by decide) (by omega) (by omega) (fun c7 => ?_) (fun c7 => ?_)
    · skip
      refine g_iconst (v := (-1)) C dX5_pure_80 (by decide) ?_
      refine g_iret C dX5_pure_81 (by decide) (by decide) ?_
      have hf9 := fpN_none hPj
      refine ⟨?_, ?_⟩
      · refine congrArg (fun b => some (Value.int b)) ?_
        unfold fpI
        rw [hf9, if_neg (by omega)]
      · unfold puE
        rw [hf9, if_neg (by omega)]
    · skip
      exfalso; omega
  · intro j hlj huj hPj ihj
    try dsimp only at ihj ⊢
    refine g_iload_n C dX5_pure_2 rfl 0 rfl ?_
    refine g_aload_n C dX5_pure_3 rfl 1 rfl ?_
    refine g_get C hinX5 0 rfl rfl 19 (by decide) (by decide +kernel) rfl rfl dX5_pure_4 ?_
    refine g_icmp_ge_n (tgt := 80) C dX5_pure_7 (by decide) (by omega) (by omega) (fun c7 => ?_) (fun c7 => ?_)
    · skip
      exfalso; omega
    · skip
      refine g_aload_n C dX5_pure_10 rfl 1 rfl ?_
      refine g_get C hinX5 0 rfl rfl 20 (by decide) (by decide +kernel) rfl rfl dX5_pure_11 ?_
      refine g_iload_n C dX5_pure_14 rfl 0 rfl ?_
      refine g_iald C 1 rfl (by omega) (by decide) dX5_pure_15 ?_
      refine g_iconst (v := nI 1) C dX5_pure_16 (by decide) ?_
      refine g_icmp_eq (tgt := 30) C dX5_pure_17 (by decide) (fun c17 => ?_) (fun c17 => ?_)
      · skip
        refine g_aload_n C dX5_pure_30 rfl 1 rfl ?_
        refine g_get C hinX5 0 rfl rfl 21 (by decide) (by decide +kernel) rfl rfl dX5_pure_31 ?_
        refine g_iload_n C dX5_pure_34 rfl 0 rfl ?_
        refine g_iald C 2 rfl (by omega) (by decide) dX5_pure_35 ?_
        refine g_iconst (v := nI 0) C dX5_pure_36 (by decide) ?_
        refine g_sipush (v := nI 255) C dX5_pure_37 (by decide) ?_
        refine g_callS1 (wr := [(a 0, oM a th (bI wk) ro (nI lo) (nI ne) (nI di) (bI ta) (nI ce) (nI fo) (nI ((puT (co, ky, vl, mk) (bt, tx) j).1))), (a 21, gI g 63 co), (a 22, gI g 63 ky), (a 23, gJ g 63 vl), (a 24, gI g 63 mk), (a 30, gI g 128 ((puT (co, ky, vl, mk) (bt, tx) j).2))]) (w2 := [(a 0, oM a th (bI wk) ro (nI lo) (nI ne) (nI di) (bI ta) (nI ce) (nI fo) (nI ((puT (co, ky, vl, mk) (bt, tx) j).1))), (a 21, gI g 63 co), (a 22, gI g 63 ky), (a 23, gJ g 63 vl), (a 24, gI g 63 mk), (a 30, gI g 128 ((puT (co, ky, vl, mk) (bt, tx) j).2))]) C (c_X5_within l g (ky j) (nI 0) (nI 255)) (va_cwS 3 C.2.2.2.2.1 gX5_pure_X5_within rfl rfl rfl (by decide +kernel) ⟨Nat.le_of_ble_eq_true rfl, Nat.le_of_ble_eq_true rfl⟩) [] [0, 1, 2, 3, 4, 5] rfl rfl rfl rfl rfl (by decide) rfl rfl (Nat.le_of_ble_eq_true rfl) dX5_pure_40 ⟨Nat.le_of_ble_eq_true rfl, Nat.le_of_ble_eq_true rfl⟩ rfl ?_
        refine g_if_eq_b (tgt := 74) C dX5_pure_43 (by decide) (fun c43 => ?_) (fun c43 => ?_)
        · skip
          rw [puT_f (cand_w c43)] at ihj
          have hq9 : pur (co, ky, vl, mk) j = false := pur_f (x := (co, ky, vl, mk)) (q := j) (fun z => by obtain ⟨kk, h1, h2⟩ := key_n z.2.1 z.2.2.1; have h3 : ky j = nI kk := h2; rw [h3, wiN_n (by omega) (by omega) (by decide)] at c43; cases c43)
          refine g_iinc_n (d := 1) (L' := [(1, .int (nI (j + 1))), (0, .ref (a 0))]) C dX5_pure_74 0 rfl (by decide) (by decide) rfl ?_
          refine g_goto (tgt := 2) C dX5_pure_77 (by decide) ?_
          exact ihj (lt_s hPj hq9)
        · skip
          refine g_aload_n C dX5_pure_46 rfl 1 rfl ?_
          refine g_get C hinX5 0 rfl rfl 23 (by decide) (by decide +kernel) rfl rfl dX5_pure_47 ?_
          refine g_iload_n C dX5_pure_50 rfl 0 rfl ?_
          refine g_iald C 4 rfl (by omega) (by decide) dX5_pure_51 ?_
          refine g_aload_n C dX5_pure_52 rfl 1 rfl ?_
          refine g_iconst (v := nI 3) C dX5_pure_53 (by decide) ?_
          refine g_aload_n C dX5_pure_54 rfl 1 rfl ?_
          refine g_get C hinX5 0 rfl rfl 21 (by decide) (by decide +kernel) rfl rfl dX5_pure_55 ?_
          refine g_iload_n C dX5_pure_58 rfl 0 rfl ?_
          refine g_iald C 2 rfl (by omega) (by decide) dX5_pure_59 ?_
          obtain ⟨kk, -, hkk, ek⟩ := wiN_of (by decide) (by decide) c43
          refine g_st (st2 := [.int (nI kk), .int (nI 3), .ref (a 0), .int (mk j)]) (by rw [ek]) ?_
          have ek2 : (ky j).toNatClampNeg = kk := by rw [ek, nI_clamp (by omega)]
          refine g_aload_n C dX5_pure_60 rfl 1 rfl ?_
          refine g_get C hinX5 0 rfl rfl 22 (by decide) (by decide +kernel) rfl rfl dX5_pure_61 ?_
          refine g_iload_n C dX5_pure_64 rfl 0 rfl ?_
          refine g_lald C 3 rfl (by omega) (by decide) dX5_pure_65 ?_
          refine g_callV1 (wr := [(a 21, gI g 63 co), (a 22, gI g 63 ky), (a 23, gJ g 63 vl), (a 24, gI g 63 mk)]) (w2 := [(a 21, gI g 63 co), (a 22, gI g 63 ky), (a 23, gJ g 63 vl), (a 24, gI g 63 mk), (a 0, oM a th (bI wk) ro (nI lo) (nI ne) (nI di) (bI ta) (nI ce) (nI fo) (nI 11)), (a 30, gI g 128 (hsT 3 kk (vl j) ((puT (co, ky, vl, mk) (bt, tx) j).2)))]) C (c_X5_hash l g a th wk ro lo ne di ta ce fo ((puT (co, ky, vl, mk) (bt, tx) j).1) ((puT (co, ky, vl, mk) (bt, tx) j).2) 3 kk (vl j) (by omega)) (cwV 3 C.2.2.2.2.1 gX5_pure_X5_hash rfl rfl rfl (by decide +kernel) ⟨Nat.le_of_ble_eq_true rfl, Nat.le_of_ble_eq_true rfl⟩) 0 rfl rfl rfl [0, 5] [1, 2, 3, 4] rfl rfl rfl rfl rfl (by decide) rfl rfl (Nat.le_of_ble_eq_true rfl) dX5_pure_66 ⟨Nat.le_of_ble_eq_true rfl, Nat.le_of_ble_eq_true rfl⟩ rfl ?_
          refine g_icmp_ne (tgt := 74) C dX5_pure_69 (by decide) (fun c69 => ?_) (fun c69 => ?_)
          · skip
            have ha : co j = nI 1 ∨ co j = -1 := by first | exact Or.inl c17 | exact Or.inr c27
            rw [puT_t (cand_i ha c43)] at ihj
            have hq9 : pur (co, ky, vl, mk) j = false := pur_f (x := (co, ky, vl, mk)) (q := j) (fun z => c69 (by have h9 : mk j = hsh 3 (ky j).toNatClampNeg (vl j) := z.2.2.2; rw [ek2] at h9; exact h9))
            change _ → G _ _ _ _ _ _ _ _ _ _ _ _ _ _ _ _ _ _ _ [(a 0, oM a th (bI wk) ro (nI lo) (nI ne) (nI di) (bI ta) (nI ce) (nI fo) (nI 11)), _, _, _, _, (a 30, gI g 128 (hsT 3 (ky j).toNatClampNeg (vl j) (puT (co, ky, vl, mk) (bt, tx) j).2))] at ihj
            rw [ek2] at ihj
            refine g_iinc_n (d := 1) (L' := [(1, .int (nI (j + 1))), (0, .ref (a 0))]) C dX5_pure_74 0 rfl (by decide) (by decide) rfl ?_
            refine g_goto (tgt := 2) C dX5_pure_77 (by decide) ?_
            refine g_perm (w2 := [(a 0, oM a th (bI wk) ro (nI lo) (nI ne) (nI di) (bI ta) (nI ce) (nI fo) (nI 11)), (a 21, gI g 63 co), (a 22, gI g 63 ky), (a 23, gJ g 63 vl), (a 24, gI g 63 mk), (a 30, gI g 128 (hsT 3 kk (vl j) ((puT (co, ky, vl, mk) (bt, tx) j).2)))]) [4, 0, 1, 2, 3, 5] rfl rfl rfl ?_
            exact ihj (lt_s hPj hq9)
          · skip
            refine g_iload_n C dX5_pure_72 rfl 0 rfl ?_
            refine g_perm (w2 := [(a 0, oM a th (bI wk) ro (nI lo) (nI ne) (nI di) (bI ta) (nI ce) (nI fo) (nI 11)), (a 21, gI g 63 co), (a 22, gI g 63 ky), (a 23, gJ g 63 vl), (a 24, gI g 63 mk), (a 30, gI g 128 (hsT 3 kk (vl j) ((puT (co, ky, vl, mk) (bt, tx) j).2)))]) [4, 0, 1, 2, 3, 5] rfl rfl rfl ?_
            refine g_iret C dX5_pure_73 (by decide) (by decide) ?_
            have ha : co j = nI 1 ∨ co j = -1 := by first | exact Or.inl c17 | exact Or.inr c27
            have hp9 : pur (co, ky, vl, mk) j = true := pur_t (x := (co, ky, vl, mk)) (q := j) ⟨ha, by show ¬ ky j < 0; rw [ek]; exact nI_pos (by omega), by show ky j < nI 256; rw [ek]; exact nI_lt (by omega) (by decide), by show mk j = hsh 3 (ky j).toNatClampNeg (vl j); rw [ek2]; exact c69⟩
            have hf9 := fpN_some huj hPj hp9
            refine ⟨?_, ?_⟩
            · refine congrArg (fun b => some (Value.int b)) ?_
              unfold fpI
              rw [hf9, if_pos huj]
            · unfold puE
              rw [hf9, if_pos huj, puT_t (cand_i ha c43)]
              show _ = [_, _, _, _, _, (a 30, gI g 128 (hsT 3 (ky j).toNatClampNeg (vl j) (puT (co, ky, vl, mk) (bt, tx) j).2))]
              rw [ek2]
      · skip
        refine g_aload_n C dX5_pure_20 rfl 1 rfl ?_
        refine g_get C hinX5 0 rfl rfl 20 (by decide) (by decide +kernel) rfl rfl dX5_pure_21 ?_
        refine g_iload_n C dX5_pure_24 rfl 0 rfl ?_
        refine g_iald C 1 rfl (by omega) (by decide) dX5_pure_25 ?_
        refine g_iconst (v := (-1)) C dX5_pure_26 (by decide) ?_
        refine g_icmp_ne (tgt := 74) C dX5_pure_27 (by decide) (fun c27 => ?_) (fun c27 => ?_)
        · skip
          rw [puT_f (cand_o c17 c27)] at ihj
          have hq9 : pur (co, ky, vl, mk) j = false := pur_f (x := (co, ky, vl, mk)) (q := j) (fun z => z.1.elim c17 c27)
          refine g_iinc_n (d := 1) (L' := [(1, .int (nI (j + 1))), (0, .ref (a 0))]) C dX5_pure_74 0 rfl (by decide) (by decide) rfl ?_
          refine g_goto (tgt := 2) C dX5_pure_77 (by decide) ?_
          exact ihj (lt_s hPj hq9)
        · skip
          refine g_aload_n C dX5_pure_30 rfl 1 rfl ?_
          refine g_get C hinX5 0 rfl rfl 21 (by decide) (by decide +kernel) rfl rfl dX5_pure_31 ?_
          refine g_iload_n C dX5_pure_34 rfl 0 rfl ?_
          refine g_iald C 2 rfl (by omega) (by decide) dX5_pure_35 ?_
          refine g_iconst (v := nI 0) C dX5_pure_36 (by decide) ?_
          refine g_sipush (v := nI 255) C dX5_pure_37 (by decide) ?_
          refine g_callS1 (wr := [(a 0, oM a th (bI wk) ro (nI lo) (nI ne) (nI di) (bI ta) (nI ce) (nI fo) (nI ((puT (co, ky, vl, mk) (bt, tx) j).1))), (a 21, gI g 63 co), (a 22, gI g 63 ky), (a 23, gJ g 63 vl), (a 24, gI g 63 mk), (a 30, gI g 128 ((puT (co, ky, vl, mk) (bt, tx) j).2))]) (w2 := [(a 0, oM a th (bI wk) ro (nI lo) (nI ne) (nI di) (bI ta) (nI ce) (nI fo) (nI ((puT (co, ky, vl, mk) (bt, tx) j).1))), (a 21, gI g 63 co), (a 22, gI g 63 ky), (a 23, gJ g 63 vl), (a 24, gI g 63 mk), (a 30, gI g 128 ((puT (co, ky, vl, mk) (bt, tx) j).2))]) C (c_X5_within l g (ky j) (nI 0) (nI 255)) (va_cwS 3 C.2.2.2.2.1 gX5_pure_X5_within rfl rfl rfl (by decide +kernel) ⟨Nat.le_of_ble_eq_true rfl, Nat.le_of_ble_eq_true rfl⟩) [] [0, 1, 2, 3, 4, 5] rfl rfl rfl rfl rfl (by decide) rfl rfl (Nat.le_of_ble_eq_true rfl) dX5_pure_40 ⟨Nat.le_of_ble_eq_true rfl, Nat.le_of_ble_eq_true rfl⟩ rfl ?_
          refine g_if_eq_b (tgt := 74) C dX5_pure_43 (by decide) (fun c43 => ?_) (fun c43 => ?_)
          · skip
            rw [puT_f (cand_w c43)] at ihj
            have hq9 : pur (co, ky, vl, mk) j = false := pur_f (x := (co, ky, vl, mk)) (q := j) (fun z => by obtain ⟨kk, h1, h2⟩ := key_n z.2.1 z.2.2.1; have h3 : ky j = nI kk := h2; rw [h3, wiN_n (by omega) (by omega) (by decide)] at c43; cases c43)
            refine g_iinc_n (d := 1) (L' := [(1, .int (nI (j + 1))), (0, .ref (a 0))]) C dX5_pure_74 0 rfl (by decide) (by decide) rfl ?_
            refine g_goto (tgt := 2) C dX5_pure_77 (by decide) ?_
            exact ihj (lt_s hPj hq9)
          · skip
            refine g_aload_n C dX5_pure_46 rfl 1 rfl ?_
            refine g_get C hinX5 0 rfl rfl 23 (by decide) (by decide +kernel) rfl rfl dX5_pure_47 ?_
            refine g_iload_n C dX5_pure_50 rfl 0 rfl ?_
            refine g_iald C 4 rfl (by omega) (by decide) dX5_pure_51 ?_
            refine g_aload_n C dX5_pure_52 rfl 1 rfl ?_
            refine g_iconst (v := nI 3) C dX5_pure_53 (by decide) ?_
            refine g_aload_n C dX5_pure_54 rfl 1 rfl ?_
            refine g_get C hinX5 0 rfl rfl 21 (by decide) (by decide +kernel) rfl rfl dX5_pure_55 ?_
            refine g_iload_n C dX5_pure_58 rfl 0 rfl ?_
            refine g_iald C 2 rfl (by omega) (by decide) dX5_pure_59 ?_
            obtain ⟨kk, -, hkk, ek⟩ := wiN_of (by decide) (by decide) c43
            refine g_st (st2 := [.int (nI kk), .int (nI 3), .ref (a 0), .int (mk j)]) (by rw [ek]) ?_
            have ek2 : (ky j).toNatClampNeg = kk := by rw [ek, nI_clamp (by omega)]
            refine g_aload_n C dX5_pure_60 rfl 1 rfl ?_
            refine g_get C hinX5 0 rfl rfl 22 (by decide) (by decide +kernel) rfl rfl dX5_pure_61 ?_
            refine g_iload_n C dX5_pure_64 rfl 0 rfl ?_
            refine g_lald C 3 rfl (by omega) (by decide) dX5_pure_65 ?_
            refine g_callV1 (wr := [(a 21, gI g 63 co), (a 22, gI g 63 ky), (a 23, gJ g 63 vl), (a 24, gI g 63 mk)]) (w2 := [(a 21, gI g 63 co), (a 22, gI g 63 ky), (a 23, gJ g 63 vl), (a 24, gI g 63 mk), (a 0, oM a th (bI wk) ro (nI lo) (nI ne) (nI di) (bI ta) (nI ce) (nI fo) (nI 11)), (a 30, gI g 128 (hsT 3 kk (vl j) ((puT (co, ky, vl, mk) (bt, tx) j).2)))]) C (c_X5_hash l g a th wk ro lo ne di ta ce fo ((puT (co, ky, vl, mk) (bt, tx) j).1) ((puT (co, ky, vl, mk) (bt, tx) j).2) 3 kk (vl j) (by omega)) (cwV 3 C.2.2.2.2.1 gX5_pure_X5_hash rfl rfl rfl (by decide +kernel) ⟨Nat.le_of_ble_eq_true rfl, Nat.le_of_ble_eq_true rfl⟩) 0 rfl rfl rfl [0, 5] [1, 2, 3, 4] rfl rfl rfl rfl rfl (by decide) rfl rfl (Nat.le_of_ble_eq_true rfl) dX5_pure_66 ⟨Nat.le_of_ble_eq_true rfl, Nat.le_of_ble_eq_true rfl⟩ rfl ?_
            refine g_icmp_ne (tgt := 74) C dX5_pure_69 (by decide) (fun c69 => ?_) (fun c69 => ?_)
            · skip
              have ha : co j = nI 1 ∨ co j = -1 := by first | exact Or.inl c17 | exact Or.inr c27
              rw [puT_t (cand_i ha c43)] at ihj
              have hq9 : pur (co, ky, vl, mk) j = false := pur_f (x := (co, ky, vl, mk)) (q := j) (fun z => c69 (by have h9 : mk j = hsh 3 (ky j).toNatClampNeg (vl j) := z.2.2.2; rw [ek2] at h9; exact h9))
              change _ → G _ _ _ _ _ _ _ _ _ _ _ _ _ _ _ _ _ _ _ [(a 0, oM a th (bI wk) ro (nI lo) (nI ne) (nI di) (bI ta) (nI ce) (nI fo) (nI 11)), _, _, _, _, (a 30, gI g 128 (hsT 3 (ky j).toNatClampNeg (vl j) (puT (co, ky, vl, mk) (bt, tx) j).2))] at ihj
              rw [ek2] at ihj
              refine g_iinc_n (d := 1) (L' := [(1, .int (nI (j + 1))), (0, .ref (a 0))]) C dX5_pure_74 0 rfl (by decide) (by decide) rfl ?_
              refine g_goto (tgt := 2) C dX5_pure_77 (by decide) ?_
              refine g_perm (w2 := [(a 0, oM a th (bI wk) ro (nI lo) (nI ne) (nI di) (bI ta) (nI ce) (nI fo) (nI 11)), (a 21, gI g 63 co), (a 22, gI g 63 ky), (a 23, gJ g 63 vl), (a 24, gI g 63 mk), (a 30, gI g 128 (hsT 3 kk (vl j) ((puT (co, ky, vl, mk) (bt, tx) j).2)))]) [4, 0, 1, 2, 3, 5] rfl rfl rfl ?_
              exact ihj (lt_s hPj hq9)
            · skip
              refine g_iload_n C dX5_pure_72 rfl 0 rfl ?_
              refine g_perm (w2 := [(a 0, oM a th (bI wk) ro (nI lo) (nI ne) (nI di) (bI ta) (nI ce) (nI fo) (nI 11)), (a 21, gI g 63 co), (a 22, gI g 63 ky), (a 23, gJ g 63 vl), (a 24, gI g 63 mk), (a 30, gI g 128 (hsT 3 kk (vl j) ((puT (co, ky, vl, mk) (bt, tx) j).2)))]) [4, 0, 1, 2, 3, 5] rfl rfl rfl ?_
              refine g_iret C dX5_pure_73 (by decide) (by decide) ?_
              have ha : co j = nI 1 ∨ co j = -1 := by first | exact Or.inl c17 | exact Or.inr c27
              have hp9 : pur (co, ky, vl, mk) j = true := pur_t (x := (co, ky, vl, mk)) (q := j) ⟨ha, by show ¬ ky j < 0; rw [ek]; exact nI_pos (by omega), by show ky j < nI 256; rw [ek]; exact nI_lt (by omega) (by decide), by show mk j = hsh 3 (ky j).toNatClampNeg (vl j); rw [ek2]; exact c69⟩
              have hf9 := fpN_some huj hPj hp9
              refine ⟨?_, ?_⟩
              · refine congrArg (fun b => some (Value.int b)) ?_
                unfold fpI
                rw [hf9, if_pos huj]
              · unfold puE
                rw [hf9, if_pos huj, puT_t (cand_i ha c43)]
                show _ = [_, _, _, _, _, (a 30, gI g 128 (hsT 3 (ky j).toNatClampNeg (vl j) (puT (co, ky, vl, mk) (bt, tx) j).2))]
                rw [ek2]
set_option maxHeartbeats 4000000 in
set_option maxRecDepth 100000 in
theorem c_X5_isEmpty (l : Launch) (g : gE) (a : Nat → Nat) (th : Int32) (wk : Bool) (ro : Int32) (lo ne di : Nat) (ta : Bool) (ce fo bt : Nat) (co : Nat → Int32) (ky : Nat → Int32) (vl : Nat → Int64) (mk : Nat → Int32) (h2 : ce ≤ 63) : Kt l g yX5_isEmpty wsX5_isEmpty 0 0 0 0 [.ref (a 0)] [(a 0, oM a th (bI wk) ro (nI lo) (nI ne) (nI di) (bI ta) (nI ce) (nI fo) (nI bt)), (a 21, gI g 63 co), (a 22, gI g 63 ky), (a 23, gJ g 63 vl), (a 24, gI g 63 mk)] (kR (some (.int (bI (isz (co, ky, vl, mk) ce)))) [(a 0, oM a th (bI wk) ro (nI lo) (nI ne) (nI di) (bI ta) (nI ce) (nI fo) (nI bt)), (a 21, gI g 63 co), (a 22, gI g 63 ky), (a 23, gJ g 63 vl), (a 24, gI g 63 mk)]) := by
  have hinX5 : ∀ w ∈ wsX50, w ∈ wsX5_isEmpty := by
    intro w h
    unfold wsX5_isEmpty
    simp only [List.mem_cons, List.mem_append]
    simp only [h, or_true, true_or]
  refine g_enter (cc := cX5_isEmpty) (maxL := 2) (ret := (some .boolean)) (own := RX5) (L := [(0, .ref (a 0))]) (by decide) rfl rfl (Nat.le_of_ble_eq_true rfl) rfl ?_
  intro p e s m args below meth c hin0 C
  refine g_iconst (v := nI 0) C dX5_isEmpty_0 (by decide) ?_
  refine g_istore_n (L' := [(1, .int (nI 0)), (0, .ref (a 0))]) C dX5_isEmpty_1 rfl (by decide) rfl ?_
  refine g_up ce 0 (fun j => ∀ q, q < j → co q = 0 ∧ ky q = 0 ∧ vl q = 0 ∧ mk q = 0) (fun j => [(1, .int (nI j)), (0, .ref (a 0))]) (fun j => [(a 0, oM a th (bI wk) ro (nI lo) (nI ne) (nI di) (bI ta) (nI ce) (nI fo) (nI bt)), (a 21, gI g 63 co), (a 22, gI g 63 ky), (a 23, gJ g 63 vl), (a 24, gI g 63 mk)]) (by omega) (fun q hq => absurd hq (Nat.not_lt_zero q)) ?_ ?_
  · intro hPj
    try dsimp only
    refine g_iload_n C dX5_isEmpty_2 rfl 0 rfl ?_
    refine g_aload_n C dX5_isEmpty_3 rfl 1 rfl ?_
    refine g_get C hinX5 0 rfl rfl 19 (by decide) (by decide +kernel) rfl rfl dX5_isEmpty_4 ?_
    refine g_icmp_ge_n (tgt := 56) C dX5_isEmpty_7 (by decide) (by omega) (by omega) (fun c7 => ?_) (fun c7 => ?_)
    · skip
      refine g_iconst (v := nI 1) C dX5_isEmpty_56 (by decide) ?_
      refine g_st (st2 := [.int (bI true)]) rfl ?_
      refine g_zret C dX5_isEmpty_57 (by decide) (by decide) ?_
      refine ⟨congrArg (fun b => some (Value.int (bI b))) ?_, rfl⟩
      exact (isz_t hPj).symm
    · skip
      exfalso; omega
  · intro j hlj huj hPj ihj
    try dsimp only at ihj ⊢
    refine g_iload_n C dX5_isEmpty_2 rfl 0 rfl ?_
    refine g_aload_n C dX5_isEmpty_3 rfl 1 rfl ?_
    refine g_get C hinX5 0 rfl rfl 19 (by decide) (by decide +kernel) rfl rfl dX5_isEmpty_4 ?_
    refine g_icmp_ge_n (tgt := 56) C dX5_isEmpty_7 (by decide) (by omega) (by omega) (fun c7 => ?_) (fun c7 => ?_)
    · skip
      exfalso; omega
    · skip
      refine g_aload_n C dX5_isEmpty_10 rfl 1 rfl ?_
      refine g_get C hinX5 0 rfl rfl 20 (by decide) (by decide +kernel) rfl rfl dX5_isEmpty_11 ?_
      refine g_iload_n C dX5_isEmpty_14 rfl 0 rfl ?_
      refine g_iald C 1 rfl (by omega) (by decide) dX5_isEmpty_15 ?_
      refine g_if_ne (tgt := 48) C dX5_isEmpty_16 (by decide) (fun c16 => ?_) (fun c16 => ?_)
      · skip
        refine g_iconst (v := nI 0) C dX5_isEmpty_48 (by decide) ?_
        refine g_st (st2 := [.int (bI false)]) rfl ?_
        refine g_zret C dX5_isEmpty_49 (by decide) (by decide) ?_
        refine ⟨congrArg (fun b => some (Value.int (bI b))) ?_, rfl⟩
        first | exact (isz_f huj (fun z => c16 z.1)).symm | exact (isz_f huj (fun z => c25 z.2.1)).symm | exact (isz_f huj (fun z => c36 (lgc_eq.mpr z.2.2.1))).symm | exact (isz_f huj (fun z => c45 z.2.2.2)).symm
      · skip
        refine g_aload_n C dX5_isEmpty_19 rfl 1 rfl ?_
        refine g_get C hinX5 0 rfl rfl 21 (by decide) (by decide +kernel) rfl rfl dX5_isEmpty_20 ?_
        refine g_iload_n C dX5_isEmpty_23 rfl 0 rfl ?_
        refine g_iald C 2 rfl (by omega) (by decide) dX5_isEmpty_24 ?_
        refine g_if_ne (tgt := 48) C dX5_isEmpty_25 (by decide) (fun c25 => ?_) (fun c25 => ?_)
        · skip
          refine g_iconst (v := nI 0) C dX5_isEmpty_48 (by decide) ?_
          refine g_st (st2 := [.int (bI false)]) rfl ?_
          refine g_zret C dX5_isEmpty_49 (by decide) (by decide) ?_
          refine ⟨congrArg (fun b => some (Value.int (bI b))) ?_, rfl⟩
          first | exact (isz_f huj (fun z => c16 z.1)).symm | exact (isz_f huj (fun z => c25 z.2.1)).symm | exact (isz_f huj (fun z => c36 (lgc_eq.mpr z.2.2.1))).symm | exact (isz_f huj (fun z => c45 z.2.2.2)).symm
        · skip
          refine g_aload_n C dX5_isEmpty_28 rfl 1 rfl ?_
          refine g_get C hinX5 0 rfl rfl 22 (by decide) (by decide +kernel) rfl rfl dX5_isEmpty_29 ?_
          refine g_iload_n C dX5_isEmpty_32 rfl 0 rfl ?_
          refine g_lald C 3 rfl (by omega) (by decide) dX5_isEmpty_33 ?_
          refine g_lconst (v := 0) C dX5_isEmpty_34 (by decide) ?_
          refine g_lcmp C dX5_isEmpty_35 ?_
          refine g_if_ne (tgt := 48) C dX5_isEmpty_36 (by decide) (fun c36 => ?_) (fun c36 => ?_)
          · skip
            refine g_iconst (v := nI 0) C dX5_isEmpty_48 (by decide) ?_
            refine g_st (st2 := [.int (bI false)]) rfl ?_
            refine g_zret C dX5_isEmpty_49 (by decide) (by decide) ?_
            refine ⟨congrArg (fun b => some (Value.int (bI b))) ?_, rfl⟩
            first | exact (isz_f huj (fun z => c16 z.1)).symm | exact (isz_f huj (fun z => c25 z.2.1)).symm | exact (isz_f huj (fun z => c36 (lgc_eq.mpr z.2.2.1))).symm | exact (isz_f huj (fun z => c45 z.2.2.2)).symm
          · skip
            refine g_aload_n C dX5_isEmpty_39 rfl 1 rfl ?_
            refine g_get C hinX5 0 rfl rfl 23 (by decide) (by decide +kernel) rfl rfl dX5_isEmpty_40 ?_
            refine g_iload_n C dX5_isEmpty_43 rfl 0 rfl ?_
            refine g_iald C 4 rfl (by omega) (by decide) dX5_isEmpty_44 ?_
            refine g_if_eq (tgt := 50) C dX5_isEmpty_45 (by decide) (fun c45 => ?_) (fun c45 => ?_)
            · skip
              refine g_iinc_n (d := 1) (L' := [(1, .int (nI (j + 1))), (0, .ref (a 0))]) C dX5_isEmpty_50 0 rfl (by decide) (by decide) rfl ?_
              refine g_goto (tgt := 2) C dX5_isEmpty_53 (by decide) ?_
              exact ihj (lt_s hPj ⟨c16, c25, lgc_eq.mp c36, c45⟩)
            · skip
              refine g_iconst (v := nI 0) C dX5_isEmpty_48 (by decide) ?_
              refine g_st (st2 := [.int (bI false)]) rfl ?_
              refine g_zret C dX5_isEmpty_49 (by decide) (by decide) ?_
              refine ⟨congrArg (fun b => some (Value.int (bI b))) ?_, rfl⟩
              first | exact (isz_f huj (fun z => c16 z.1)).symm | exact (isz_f huj (fun z => c25 z.2.1)).symm | exact (isz_f huj (fun z => c36 (lgc_eq.mpr z.2.2.1))).symm | exact (isz_f huj (fun z => c45 z.2.2.2)).symm
