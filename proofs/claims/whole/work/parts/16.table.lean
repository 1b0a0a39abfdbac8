set_option maxHeartbeats 4000000 in
set_option maxRecDepth 100000 in
theorem c_X2_clear (l : Launch) (g : gE) (a : Nat → Nat) (co ky : Nat → Int32) (vl : Nat → Int64) (mk : Nat → Int32) (fs : Nat → Int32) (fl : Nat → Nat) (fv : Nat → Int64) (th fz : Nat) (n : Nat) (hn : n < 2 ^ 20) : Kt l g yX2_clear wsX2_clear 1 24 0 0 [.ref (a 0), .int (nI n)] [(a 0, .inr (3, [.ref (a 1), .ref (a 2), .ref (a 3), .ref (a 4), .ref (a 5), .ref (a 6), .ref (a 7), .int (nI th), .int (nI fz)])), (a 1, gI g 63 co), (a 2, gI g 63 ky), (a 3, gJ g 63 vl), (a 4, gI g 63 mk), (a 5, gI g 256 fs), (a 6, gN g 256 fl), (a 7, gJ g 256 fv)] (kR none [(a 0, .inr (3, [.ref (a 1), .ref (a 2), .ref (a 3), .ref (a 4), .ref (a 5), .ref (a 6), .ref (a 7), .int (nI (n / 3)), .int (nI 0)])), (a 1, gI g 63 (it (fun i z => va_up z i (nI 0)) co 63)), (a 2, gI g 63 (it (fun i z => va_up z i (nI 0)) ky 63)), (a 3, gJ g 63 (it (fun i z => va_up z i (0 : Int64)) vl 63)), (a 4, gI g 63 (it (fun i z => va_up z i (nI 0)) mk 63)), (a 5, gI g 256 fs), (a 6, gN g 256 fl), (a 7, gJ g 256 fv)]) := by
  have hinX2 : ∀ w ∈ wsX20, w ∈ wsX2_clear := by
    intro w h
    unfold wsX2_clear
    simp only [List.mem_cons, List.mem_append]
    simp only [h, or_true, true_or]
  refine g_enter (cc := cX2_clear) (maxL := 2) (ret := none) (own := RX2) (L := [(0, .ref (a 0)), (1, .int (nI n))]) (by decide) rfl rfl (Nat.le_of_ble_eq_true rfl) rfl ?_
  intro p e s m args below meth c hin0 C
  refine g_aload_n C dX2_clear_0 rfl 0 rfl ?_
  refine g_get C hinX2 0 rfl rfl 0 (by decide) (by decide +kernel) rfl rfl dX2_clear_1 ?_
  refine g_iconst (v := nI 0) C dX2_clear_4 (by decide) ?_
  refine g_callS0 (wr := [(a 0, .inr (3, [.ref (a 1), .ref (a 2), .ref (a 3), .ref (a 4), .ref (a 5), .ref (a 6), .ref (a 7), .int (nI th), .int (nI fz)])), (a 2, gI g 63 ky), (a 3, gJ g 63 vl), (a 4, gI g 63 mk), (a 5, gI g 256 fs), (a 6, gN g 256 fl), (a 7, gJ g 256 fv)]) (w2 := [(a 0, .inr (3, [.ref (a 1), .ref (a 2), .ref (a 3), .ref (a 4), .ref (a 5), .ref (a 6), .ref (a 7), .int (nI th), .int (nI fz)])), (a 2, gI g 63 ky), (a 3, gJ g 63 vl), (a 4, gI g 63 mk), (a 5, gI g 256 fs), (a 6, gN g 256 fl), (a 7, gJ g 256 fv), (a 1, gI g 63 (it (fun i z => va_up z i (nI 0)) co 63))]) C (c_J7_fill_53178 l g (a 1) 63 co (nI 0) (by omega)) (va_cwS 2 C.2.2.2.2.1 gX2_clear_J7_fill_53178 rfl rfl rfl (by decide +kernel) ⟨Nat.le_of_ble_eq_true rfl, Nat.le_of_ble_eq_true rfl⟩) [1] [0, 2, 3, 4, 5, 6, 7] rfl rfl rfl rfl rfl (by decide) rfl rfl (Nat.le_of_ble_eq_true rfl) dX2_clear_5 ⟨Nat.le_of_ble_eq_true rfl, Nat.le_of_ble_eq_true rfl⟩ rfl ?_
  refine g_aload_n C dX2_clear_8 rfl 0 rfl ?_
  refine g_get C hinX2 0 rfl rfl 1 (by decide) (by decide +kernel) rfl rfl dX2_clear_9 ?_
  refine g_iconst (v := nI 0) C dX2_clear_12 (by decide) ?_
  refine g_callS0 (wr := [(a 0, .inr (3, [.ref (a 1), .ref (a 2), .ref (a 3), .ref (a 4), .ref (a 5), .ref (a 6), .ref (a 7), .int (nI th), .int (nI fz)])), (a 3, gJ g 63 vl), (a 4, gI g 63 mk), (a 5, gI g 256 fs), (a 6, gN g 256 fl), (a 7, gJ g 256 fv), (a 1, gI g 63 (it (fun i z => va_up z i (nI 0)) co 63))]) (w2 := [(a 0, .inr (3, [.ref (a 1), .ref (a 2), .ref (a 3), .ref (a 4), .ref (a 5), .ref (a 6), .ref (a 7), .int (nI th), .int (nI fz)])), (a 3, gJ g 63 vl), (a 4, gI g 63 mk), (a 5, gI g 256 fs), (a 6, gN g 256 fl), (a 7, gJ g 256 fv), (a 1, gI g 63 (it (fun i z => va_up z i (nI 0)) co 63)), (a 2, gI g 63 (it (fun i z => va_up z i (nI 0)) ky 63))]) C (c_J7_fill_53178 l g (a 2) 63 ky (nI 0) (by omega)) (va_cwS 2 C.2.2.2.2.1 gX2_clear_J7_fill_53178 rfl rfl rfl (by decide +kernel) ⟨Nat.le_of_ble_eq_true rfl, Nat.le_of_ble_eq_true rfl⟩) [1] [0, 2, 3, 4, 5, 6, 7] rfl rfl rfl rfl rfl (by decide) rfl rfl (Nat.le_of_ble_eq_true rfl) dX2_clear_13 ⟨Nat.le_of_ble_eq_true rfl, Nat.le_of_ble_eq_true rfl⟩ rfl ?_
  refine g_aload_n C dX2_clear_16 rfl 0 rfl ?_
  refine g_get C hinX2 0 rfl rfl 2 (by decide) (by decide +kernel) rfl rfl dX2_clear_17 ?_
  refine g_lconst (v := 0) C dX2_clear_20 (by decide) ?_
  refine g_callS0 (wr := [(a 0, .inr (3, [.ref (a 1), .ref (a 2), .ref (a 3), .ref (a 4), .ref (a 5), .ref (a 6), .ref (a 7), .int (nI th), .int (nI fz)])), (a 4, gI g 63 mk), (a 5, gI g 256 fs), (a 6, gN g 256 fl), (a 7, gJ g 256 fv), (a 1, gI g 63 (it (fun i z => va_up z i (nI 0)) co 63)), (a 2, gI g 63 (it (fun i z => va_up z i (nI 0)) ky 63))]) (w2 := [(a 0, .inr (3, [.ref (a 1), .ref (a 2), .ref (a 3), .ref (a 4), .ref (a 5), .ref (a 6), .ref (a 7), .int (nI th), .int (nI fz)])), (a 4, gI g 63 mk), (a 5, gI g 256 fs), (a 6, gN g 256 fl), (a 7, gJ g 256 fv), (a 1, gI g 63 (it (fun i z => va_up z i (nI 0)) co 63)), (a 2, gI g 63 (it (fun i z => va_up z i (nI 0)) ky 63)), (a 3, gJ g 63 (it (fun i z => va_up z i (0 : Int64)) vl 63))]) C (c_J7_fill_d0a16 l g (a 3) 63 vl (0 : Int64) (by omega)) (va_cwS 2 C.2.2.2.2.1 gX2_clear_J7_fill_d0a16 rfl rfl rfl (by decide +kernel) ⟨Nat.le_of_ble_eq_true rfl, Nat.le_of_ble_eq_true rfl⟩) [1] [0, 2, 3, 4, 5, 6, 7] rfl rfl rfl rfl rfl (by decide) rfl rfl (Nat.le_of_ble_eq_true rfl) dX2_clear_21 ⟨Nat.le_of_ble_eq_true rfl, Nat.le_of_ble_eq_true rfl⟩ rfl ?_
  refine g_aload_n C dX2_clear_24 rfl 0 rfl ?_
  refine g_get C hinX2 0 rfl rfl 3 (by decide) (by decide +kernel) rfl rfl dX2_clear_25 ?_
  refine g_iconst (v := nI 0) C dX2_clear_28 (by decide) ?_
  refine g_callS0 (wr := [(a 0, .inr (3, [.ref (a 1), .ref (a 2), .ref (a 3), .ref (a 4), .ref (a 5), .ref (a 6), .ref (a 7), .int (nI th), .int (nI fz)])), (a 5, gI g 256 fs), (a 6, gN g 256 fl), (a 7, gJ g 256 fv), (a 1, gI g 63 (it (fun i z => va_up z i (nI 0)) co 63)), (a 2, gI g 63 (it (fun i z => va_up z i (nI 0)) ky 63)), (a 3, gJ g 63 (it (fun i z => va_up z i (0 : Int64)) vl 63))]) (w2 := [(a 0, .inr (3, [.ref (a 1), .ref (a 2), .ref (a 3), .ref (a 4), .ref (a 5), .ref (a 6), .ref (a 7), .int (nI th), .int (nI fz)])), (a 5, gI g 256 fs), (a 6, gN g 256 fl), (a 7, gJ g 256 fv), (a 1, gI g 63 (it (fun i z => va_up z i (nI 0)) co 63)), (a 2, gI g 63 (it (fun i z => va_up z i (nI 0)) ky 63)), (a 3, gJ g 63 (it (fun i z => va_up z i (0 : Int64)) vl 63)), (a 4, gI g 63 (it (fun i z => va_up z i (nI 0)) mk 63))]) C (c_J7_fill_53178 l g (a 4) 63 mk (nI 0) (by omega)) (va_cwS 2 C.2.2.2.2.1 gX2_clear_J7_fill_53178 rfl rfl rfl (by decide +kernel) ⟨Nat.le_of_ble_eq_true rfl, Nat.le_of_ble_eq_true rfl⟩) [1] [0, 2, 3, 4, 5, 6, 7] rfl rfl rfl rfl rfl (by decide) rfl rfl (Nat.le_of_ble_eq_true rfl) dX2_clear_29 ⟨Nat.le_of_ble_eq_true rfl, Nat.le_of_ble_eq_true rfl⟩ rfl ?_
  refine g_aload_n C dX2_clear_32 rfl 0 rfl ?_
  refine g_iload_n C dX2_clear_33 rfl 1 rfl ?_
  refine g_iconst (v := nI 3) C dX2_clear_34 (by decide) ?_
  refine g_idiv_n C dX2_clear_35 (by omega) (by omega) (by omega) ?_
  refine g_put (ty := .int) (w2 := [(a 0, .inr (3, [.ref (a 1), .ref (a 2), .ref (a 3), .ref (a 4), .ref (a 5), .ref (a 6), .ref (a 7), .int (nI (n / 3)), .int (nI fz)])), (a 5, gI g 256 fs), (a 6, gN g 256 fl), (a 7, gJ g 256 fv), (a 1, gI g 63 (it (fun i z => va_up z i (nI 0)) co 63)), (a 2, gI g 63 (it (fun i z => va_up z i (nI 0)) ky 63)), (a 3, gJ g 63 (it (fun i z => va_up z i (0 : Int64)) vl 63)), (a 4, gI g 63 (it (fun i z => va_up z i (nI 0)) mk 63))]) C hinX2 0 rfl rfl 7 (by decide) (by decide +kernel) rfl tyX2 tyX2_ok nmX2 rfl (by decide +kernel) rfl rfl (Nat.le_of_ble_eq_true rfl) rfl dX2_clear_36 ?_
  refine g_aload_n C dX2_clear_39 rfl 0 rfl ?_
  refine g_iconst (v := nI 0) C dX2_clear_40 (by decide) ?_
  refine g_put (ty := .int) (w2 := [(a 0, .inr (3, [.ref (a 1), .ref (a 2), .ref (a 3), .ref (a 4), .ref (a 5), .ref (a 6), .ref (a 7), .int (nI (n / 3)), .int (nI 0)])), (a 5, gI g 256 fs), (a 6, gN g 256 fl), (a 7, gJ g 256 fv), (a 1, gI g 63 (it (fun i z => va_up z i (nI 0)) co 63)), (a 2, gI g 63 (it (fun i z => va_up z i (nI 0)) ky 63)), (a 3, gJ g 63 (it (fun i z => va_up z i (0 : Int64)) vl 63)), (a 4, gI g 63 (it (fun i z => va_up z i (nI 0)) mk 63))]) C hinX2 0 rfl rfl 8 (by decide) (by decide +kernel) rfl tyX2 tyX2_ok nmX2 rfl (by decide +kernel) rfl rfl (Nat.le_of_ble_eq_true rfl) rfl dX2_clear_41 ?_
  refine g_perm (w2 := [(a 0, .inr (3, [.ref (a 1), .ref (a 2), .ref (a 3), .ref (a 4), .ref (a 5), .ref (a 6), .ref (a 7), .int (nI (n / 3)), .int (nI 0)])), (a 1, gI g 63 (it (fun i z => va_up z i (nI 0)) co 63)), (a 2, gI g 63 (it (fun i z => va_up z i (nI 0)) ky 63)), (a 3, gJ g 63 (it (fun i z => va_up z i (0 : Int64)) vl 63)), (a 4, gI g 63 (it (fun i z => va_up z i (nI 0)) mk 63)), (a 5, gI g 256 fs), (a 6, gN g 256 fl), (a 7, gJ g 256 fv)]) [0, 4, 5, 6, 7, 1, 2, 3] rfl rfl rfl ?_
  refine g_vret C dX2_clear_44 (by decide) (by decide) ?_
  exact ⟨rfl, rfl⟩
set_option maxHeartbeats 4000000 in
set_option maxRecDepth 100000 in
theorem c_X2_foundSize (l : Launch) (g : gE) (a : Nat → Nat) (co ky : Nat → Int32) (vl : Nat → Int64) (mk : Nat → Int32) (fs : Nat → Int32) (fl : Nat → Nat) (fv : Nat → Int64) (th fz : Nat) : Kt l g yX2_foundSize wsX2_foundSize 0 0 0 0 [.ref (a 0)] [(a 0, .inr (3, [.ref (a 1), .ref (a 2), .ref (a 3), .ref (a 4), .ref (a 5), .ref (a 6), .ref (a 7), .int (nI th), .int (nI fz)])), (a 1, gI g 63 co), (a 2, gI g 63 ky), (a 3, gJ g 63 vl), (a 4, gI g 63 mk), (a 5, gI g 256 fs), (a 6, gN g 256 fl), (a 7, gJ g 256 fv)] (kR (some (.int (nI fz))) [(a 0, .inr (3, [.ref (a 1), .ref (a 2), .ref (a 3), .ref (a 4), .ref (a 5), .ref (a 6), .ref (a 7), .int (nI th), .int (nI fz)])), (a 1, gI g 63 co), (a 2, gI g 63 ky), (a 3, gJ g 63 vl), (a 4, gI g 63 mk), (a 5, gI g 256 fs), (a 6, gN g 256 fl), (a 7, gJ g 256 fv)]) := by
  have hinX2 : ∀ w ∈ wsX20, w ∈ wsX2_foundSize := by
    intro w h
    unfold wsX2_foundSize
    simp only [List.mem_cons, List.mem_append]
    simp only [h, or_true, true_or]
  refine g_enter (cc := cX2_foundSize) (maxL := 1) (ret := (some .int)) (own := RX2) (L := [(0, .ref (a 0))]) (by decide) rfl rfl (Nat.le_of_ble_eq_true rfl) rfl ?_
  intro p e s m args below meth c hin0 C
  refine g_aload_n C dX2_foundSize_0 rfl 0 rfl ?_
  refine g_get C hinX2 0 rfl rfl 8 (by decide) (by decide +kernel) rfl rfl dX2_foundSize_1 ?_
  refine g_iret C dX2_foundSize_4 (by decide) (by decide) ?_
  exact ⟨rfl, rfl⟩
set_option maxHeartbeats 4000000 in
set_option maxRecDepth 100000 in
theorem c_X2_hasFound (l : Launch) (g : gE) (a : Nat → Nat) (co ky : Nat → Int32) (vl : Nat → Int64) (mk : Nat → Int32) (fs : Nat → Int32) (fl : Nat → Nat) (fv : Nat → Int64) (th fz : Nat) (x : Int32) : Kt l g yX2_hasFound wsX2_hasFound 0 0 0 0 [.ref (a 0), .int x] [(a 0, .inr (3, [.ref (a 1), .ref (a 2), .ref (a 3), .ref (a 4), .ref (a 5), .ref (a 6), .ref (a 7), .int (nI th), .int (nI fz)])), (a 1, gI g 63 co), (a 2, gI g 63 ky), (a 3, gJ g 63 vl), (a 4, gI g 63 mk), (a 5, gI g 256 fs), (a 6, gN g 256 fl), (a 7, gJ g 256 fv)] (kR (some (.int (bI (hasF fz x)))) [(a 0, .inr (3, [.ref (a 1), .ref (a 2), .ref (a 3), .ref (a 4), .ref (a 5), .ref (a 6), .ref (a 7), .int (nI th), .int (nI fz)])), (a 1, gI g 63 co), (a 2, gI g 63 ky), (a 3, gJ g 63 vl), (a 4, gI g 63 mk), (a 5, gI g 256 fs), (a 6, gN g 256 fl), (a 7, gJ g 256 fv)]) := by
  have hinX2 : ∀ w ∈ wsX20, w ∈ wsX2_hasFound := by
    intro w h
    unfold wsX2_hasFound
    simp only [List.mem_cons, List.mem_append]
    simp only [h, or_true, true_or]
  refine g_enter (cc := cX2_hasFound) (maxL := 2) (ret := (some .boolean)) (own := RX2) (L := [(0, .ref (a 0)), (1, .int x)]) (by decide) rfl rfl (Nat.le_of_ble_eq_true rfl) rfl ?_
  intro p e s m args below meth c hin0 C
  refine g_iload_n C dX2_hasFound_0 rfl 1 rfl ?_
  refine g_if_lt (tgt := 23) C dX2_hasFound_1 (by decide) (fun c1 => ?_) (fun c1 => ?_)
  · skip
    refine g_iconst (v := nI 0) C dX2_hasFound_23 (by decide) ?_
    refine g_st (st2 := [.int (bI false)]) rfl ?_
    refine g_zret C dX2_hasFound_24 (by decide) (by decide) ?_
    refine ⟨congrArg (fun b => some (Value.int (bI b))) ?_, rfl⟩
    first | (simp [hasF, c1, c9, c16]; done) | (simp [hasF, c1, c9]; done) | (simp [hasF, c1]; done)
  · skip
    refine g_iload_n C dX2_hasFound_4 rfl 1 rfl ?_
    refine g_aload_n C dX2_hasFound_5 rfl 0 rfl ?_
    refine g_get C hinX2 0 rfl rfl 8 (by decide) (by decide +kernel) rfl rfl dX2_hasFound_6 ?_
    refine g_icmp_ge (tgt := 23) C dX2_hasFound_9 (by decide) (fun c9 => ?_) (fun c9 => ?_)
    · skip
      refine g_iconst (v := nI 0) C dX2_hasFound_23 (by decide) ?_
      refine g_st (st2 := [.int (bI false)]) rfl ?_
      refine g_zret C dX2_hasFound_24 (by decide) (by decide) ?_
      refine ⟨congrArg (fun b => some (Value.int (bI b))) ?_, rfl⟩
      first | (simp [hasF, c1, c9, c16]; done) | (simp [hasF, c1, c9]; done) | (simp [hasF, c1]; done)
    · skip
      refine g_iload_n C dX2_hasFound_12 rfl 1 rfl ?_
      refine g_sipush (v := nI 256) C dX2_hasFound_13 (by decide) ?_
      refine g_icmp_ge (tgt := 23) C dX2_hasFound_16 (by decide) (fun c16 => ?_) (fun c16 => ?_)
      · skip
        refine g_iconst (v := nI 0) C dX2_hasFound_23 (by decide) ?_
        refine g_st (st2 := [.int (bI false)]) rfl ?_
        refine g_zret C dX2_hasFound_24 (by decide) (by decide) ?_
        refine ⟨congrArg (fun b => some (Value.int (bI b))) ?_, rfl⟩
        first | (simp [hasF, c1, c9, c16]; done) | (simp [hasF, c1, c9]; done) | (simp [hasF, c1]; done)
      · skip
        refine g_iconst (v := nI 1) C dX2_hasFound_19 (by decide) ?_
        refine g_goto (tgt := 24) C dX2_hasFound_20 (by decide) ?_
        refine g_st (st2 := [.int (bI true)]) rfl ?_
        refine g_zret C dX2_hasFound_24 (by decide) (by decide) ?_
        refine ⟨congrArg (fun b => some (Value.int (bI b))) ?_, rfl⟩
        first | (simp [hasF, c1, c9, c16]; done) | (simp [hasF, c1, c9]; done) | (simp [hasF, c1]; done)
set_option maxHeartbeats 4000000 in
set_option maxRecDepth 100000 in
theorem c_X2_valueFound (l : Launch) (g : gE) (a : Nat → Nat) (co ky : Nat → Int32) (vl : Nat → Int64) (mk : Nat → Int32) (fs : Nat → Int32) (fl : Nat → Nat) (fv : Nat → Int64) (th fz : Nat) (k : Nat) (hk : k < 256) : Kt l g yX2_valueFound wsX2_valueFound 0 0 0 0 [.ref (a 0), .int (nI k)] [(a 0, .inr (3, [.ref (a 1), .ref (a 2), .ref (a 3), .ref (a 4), .ref (a 5), .ref (a 6), .ref (a 7), .int (nI th), .int (nI fz)])), (a 1, gI g 63 co), (a 2, gI g 63 ky), (a 3, gJ g 63 vl), (a 4, gI g 63 mk), (a 5, gI g 256 fs), (a 6, gN g 256 fl), (a 7, gJ g 256 fv)] (kR (some (.long (fv k))) [(a 0, .inr (3, [.ref (a 1), .ref (a 2), .ref (a 3), .ref (a 4), .ref (a 5), .ref (a 6), .ref (a 7), .int (nI th), .int (nI fz)])), (a 1, gI g 63 co), (a 2, gI g 63 ky), (a 3, gJ g 63 vl), (a 4, gI g 63 mk), (a 5, gI g 256 fs), (a 6, gN g 256 fl), (a 7, gJ g 256 fv)]) := by
  have hinX2 : ∀ w ∈ wsX20, w ∈ wsX2_valueFound := by
    intro w h
    unfold wsX2_valueFound
    simp only [List.mem_cons, List.mem_append]
    simp only [h, or_true, true_or]
  refine g_enter (cc := cX2_valueFound) (maxL := 2) (ret := (some .long)) (own := RX2) (L := [(0, .ref (a 0)), (1, .int (nI k))]) (by decide) rfl rfl (Nat.le_of_ble_eq_true rfl) rfl ?_
  intro p e s m args below meth c hin0 C
  refine g_aload_n C dX2_valueFound_0 rfl 0 rfl ?_
  refine g_get C hinX2 0 rfl rfl 6 (by decide) (by decide +kernel) rfl rfl dX2_valueFound_1 ?_
  refine g_iload_n C dX2_valueFound_4 rfl 1 rfl ?_
  refine g_lald C 7 rfl (by omega) (by decide) dX2_valueFound_5 ?_
  refine g_lret C dX2_valueFound_6 (by decide) (by decide) ?_
  exact ⟨rfl, rfl⟩
set_option maxHeartbeats 4000000 in
set_option maxRecDepth 100000 in
theorem c_X2_foundPart (l : Launch) (g : gE) (a : Nat → Nat) (co ky : Nat → Int32) (vl : Nat → Int64) (mk : Nat → Int32) (fs : Nat → Int32) (fl : Nat → Nat) (fv : Nat → Int64) (th fz : Nat) (x y : Int32) (ht : fz < 2 ^ 31) (hs : ∀ j, fl j < 256) : Kt l g yX2_foundPart wsX2_foundPart 1 21 0 0 [.ref (a 0), .int x, .int y] [(a 0, .inr (3, [.ref (a 1), .ref (a 2), .ref (a 3), .ref (a 4), .ref (a 5), .ref (a 6), .ref (a 7), .int (nI th), .int (nI fz)])), (a 1, gI g 63 co), (a 2, gI g 63 ky), (a 3, gJ g 63 vl), (a 4, gI g 63 mk), (a 5, gI g 256 fs), (a 6, gN g 256 fl), (a 7, gJ g 256 fv)] (kR (some (.int (fndV fz fs fl x y))) [(a 0, .inr (3, [.ref (a 1), .ref (a 2), .ref (a 3), .ref (a 4), .ref (a 5), .ref (a 6), .ref (a 7), .int (nI th), .int (nI fz)])), (a 1, gI g 63 co), (a 2, gI g 63 ky), (a 3, gJ g 63 vl), (a 4, gI g 63 mk), (a 5, gI g 256 fs), (a 6, gN g 256 fl), (a 7, gJ g 256 fv)]) := by
  have hinX2 : ∀ w ∈ wsX20, w ∈ wsX2_foundPart := by
    intro w h
    unfold wsX2_foundPart
    simp only [List.mem_cons, List.mem_append]
    simp only [h, or_true, true_or]
  refine g_enter (cc := cX2_foundPart) (maxL := 3) (ret := (some .int)) (own := RX2) (L := [(0, .ref (a 0)), (1, .int x), (2, .int y)]) (by decide) rfl rfl (Nat.le_of_ble_eq_true rfl) rfl ?_
  intro p e s m args below meth c hin0 C
  refine g_aload_n C dX2_foundPart_0 rfl 0 rfl ?_
  refine g_iload_n C dX2_foundPart_1 rfl 1 rfl ?_
  refine g_callV1 (wr := []) (w2 := [(a 0, .inr (3, [.ref (a 1), .ref (a 2), .ref (a 3), .ref (a 4), .ref (a 5), .ref (a 6), .ref (a 7), .int (nI th), .int (nI fz)])), (a 1, gI g 63 co), (a 2, gI g 63 ky), (a 3, gJ g 63 vl), (a 4, gI g 63 mk), (a 5, gI g 256 fs), (a 6, gN g 256 fl), (a 7, gJ g 256 fv)]) C (c_X2_hasFound l g a co ky vl mk fs fl fv th fz x) (cwV 1 C.2.2.2.2.1 gX2_foundPart_X2_hasFound rfl rfl rfl (by decide +kernel) ⟨Nat.le_of_ble_eq_true rfl, Nat.le_of_ble_eq_true rfl⟩) 0 rfl rfl rfl [0, 1, 2, 3, 4, 5, 6, 7] [] rfl rfl rfl rfl rfl (by decide) rfl rfl (Nat.le_of_ble_eq_true rfl) dX2_foundPart_2 ⟨Nat.le_of_ble_eq_true rfl, Nat.le_of_ble_eq_true rfl⟩ rfl ?_
  refine g_if_ne_b (tgt := 10) C dX2_foundPart_5 (by decide) (fun c5 => ?_) (fun c5 => ?_)
  · skip
    obtain ⟨kk, hk1, hk2, rfl⟩ := hasF_n ht c5
    have hs1 := hs kk
    refine g_iload_n C dX2_foundPart_10 rfl 2 rfl ?_
    rcases (show Int32.toInt y = 0 ∨ Int32.toInt y = 1 ∨ Int32.toInt y = 2 ∨ (Int32.toInt y < 0 ∨ 2 < Int32.toInt y) by omega) with hs11 | hs11 | hs11 | hs11
    · skip
      refine g_tableIn (off := 25) (tgt := 36) C dX2_foundPart_11 (by rw [hs11]; decide) (by rw [hs11]; decide) (by rw [hs11]; rfl) (by decide) ?_
      refine g_aload_n C dX2_foundPart_36 rfl 0 rfl ?_
      refine g_get C hinX2 0 rfl rfl 4 (by decide) (by decide +kernel) rfl rfl dX2_foundPart_37 ?_
      refine g_iload_n C dX2_foundPart_40 rfl 1 rfl ?_
      refine g_iald C 5 rfl (by omega) (by decide) dX2_foundPart_41 ?_
      refine g_iret C dX2_foundPart_42 (by decide) (by decide) ?_
      refine ⟨congrArg (fun b => some (Value.int b)) ?_, rfl⟩
      rw [fndV_in hk1 hk2 ht, if_pos hs11]
    · skip
      refine g_tableIn (off := 32) (tgt := 43) C dX2_foundPart_11 (by rw [hs11]; decide) (by rw [hs11]; decide) (by rw [hs11]; rfl) (by decide) ?_
      refine g_aload_n C dX2_foundPart_43 rfl 0 rfl ?_
      refine g_get C hinX2 0 rfl rfl 5 (by decide) (by decide +kernel) rfl rfl dX2_foundPart_44 ?_
      refine g_iload_n C dX2_foundPart_47 rfl 1 rfl ?_
      refine g_nald C 6 rfl (by omega) (by decide) dX2_foundPart_48 ?_
      refine g_callSN1 (wr := [(a 0, .inr (3, [.ref (a 1), .ref (a 2), .ref (a 3), .ref (a 4), .ref (a 5), .ref (a 6), .ref (a 7), .int (nI th), .int (nI fz)])), (a 1, gI g 63 co), (a 2, gI g 63 ky), (a 3, gJ g 63 vl), (a 4, gI g 63 mk), (a 5, gI g 256 fs), (a 6, gN g 256 fl), (a 7, gJ g 256 fv)]) (w2 := [(a 0, .inr (3, [.ref (a 1), .ref (a 2), .ref (a 3), .ref (a 4), .ref (a 5), .ref (a 6), .ref (a 7), .int (nI th), .int (nI fz)])), (a 1, gI g 63 co), (a 2, gI g 63 ky), (a 3, gJ g 63 vl), (a 4, gI g 63 mk), (a 5, gI g 256 fs), (a 6, gN g 256 fl), (a 7, gJ g 256 fv)]) C (c_X4_nodeOf l g (fl kk) (by omega)) ⟨va_cnB 1 C.2.2.2.2.1 gX2_foundPart_X4_nodeOf_n54 rfl rfl rfl (C.2.2.2.2.2.2.2.2.2.2.2.2.2.2.2 _ (List.mem_of_getElem? (i := 7) rfl)) (C.2.2.2.2.1 _ (by decide +kernel)) (by decide +kernel) ⟨Nat.le_of_ble_eq_true rfl, Nat.le_of_ble_eq_true rfl⟩, C.2.2.2.2.1 _ (by decide +kernel), trivial⟩ [] [0, 1, 2, 3, 4, 5, 6, 7] rfl rfl rfl rfl rfl (by decide) rfl rfl (Nat.le_of_ble_eq_true rfl) dX2_foundPart_49 ⟨Nat.le_of_ble_eq_true rfl, Nat.le_of_ble_eq_true rfl⟩ rfl ?_
      refine g_iret C dX2_foundPart_52 (by decide) (by decide) ?_
      refine ⟨congrArg (fun b => some (Value.int b)) ?_, rfl⟩
      rw [fndV_in hk1 hk2 ht, if_neg (by omega), if_pos hs11]
    · skip
      refine g_tableIn (off := 42) (tgt := 53) C dX2_foundPart_11 (by rw [hs11]; decide) (by rw [hs11]; decide) (by rw [hs11]; rfl) (by decide) ?_
      refine g_aload_n C dX2_foundPart_53 rfl 0 rfl ?_
      refine g_get C hinX2 0 rfl rfl 5 (by decide) (by decide +kernel) rfl rfl dX2_foundPart_54 ?_
      refine g_iload_n C dX2_foundPart_57 rfl 1 rfl ?_
      refine g_nald C 6 rfl (by omega) (by decide) dX2_foundPart_58 ?_
      refine g_callSN1 (wr := [(a 0, .inr (3, [.ref (a 1), .ref (a 2), .ref (a 3), .ref (a 4), .ref (a 5), .ref (a 6), .ref (a 7), .int (nI th), .int (nI fz)])), (a 1, gI g 63 co), (a 2, gI g 63 ky), (a 3, gJ g 63 vl), (a 4, gI g 63 mk), (a 5, gI g 256 fs), (a 6, gN g 256 fl), (a 7, gJ g 256 fv)]) (w2 := [(a 0, .inr (3, [.ref (a 1), .ref (a 2), .ref (a 3), .ref (a 4), .ref (a 5), .ref (a 6), .ref (a 7), .int (nI th), .int (nI fz)])), (a 1, gI g 63 co), (a 2, gI g 63 ky), (a 3, gJ g 63 vl), (a 4, gI g 63 mk), (a 5, gI g 256 fs), (a 6, gN g 256 fl), (a 7, gJ g 256 fv)]) C (c_X4_numberOf l g (fl kk) (by omega)) ⟨va_cnB 1 C.2.2.2.2.1 gX2_foundPart_X4_numberOf_n58 rfl rfl rfl (C.2.2.2.2.2.2.2.2.2.2.2.2.2.2.2 _ (List.mem_of_getElem? (i := 8) rfl)) (C.2.2.2.2.1 _ (by decide +kernel)) (by decide +kernel) ⟨Nat.le_of_ble_eq_true rfl, Nat.le_of_ble_eq_true rfl⟩, C.2.2.2.2.1 _ (by decide +kernel), trivial⟩ [] [0, 1, 2, 3, 4, 5, 6, 7] rfl rfl rfl rfl rfl (by decide) rfl rfl (Nat.le_of_ble_eq_true rfl) dX2_foundPart_59 ⟨Nat.le_of_ble_eq_true rfl, Nat.le_of_ble_eq_true rfl⟩ rfl ?_
      refine g_iret C dX2_foundPart_62 (by decide) (by decide) ?_
      refine ⟨congrArg (fun b => some (Value.int b)) ?_, rfl⟩
      rw [fndV_in hk1 hk2 ht, if_neg (by omega), if_neg (by omega), if_pos hs11]
    · skip
      refine g_tableOut (tgt := 63) C dX2_foundPart_11 hs11 (by decide) ?_
      refine g_iconst (v := (-1)) C dX2_foundPart_63 (by decide) ?_
      refine g_iret C dX2_foundPart_64 (by decide) (by decide) ?_
      refine ⟨congrArg (fun b => some (Value.int b)) ?_, rfl⟩
      rw [fndV_in hk1 hk2 ht, if_neg (by omega), if_neg (by omega), if_neg (by omega)]
  · skip
    refine g_iconst (v := (-1)) C dX2_foundPart_8 (by decide) ?_
    refine g_iret C dX2_foundPart_9 (by decide) (by decide) ?_
    refine ⟨congrArg (fun b => some (Value.int b)) ?_, rfl⟩
    exact (fndV_out (hasF_o c5)).symm
set_option maxHeartbeats 4000000 in
set_option maxRecDepth 100000 in
theorem c_X2_hash (l : Launch) (g : gE) (j k : Nat) (v : Int64) (hk : k < 2 ^ 30) : Kt l g yX2_hash wsX2_hash 3 70 0 0 [.int (nI j), .int (nI k), .long v] [] (kR (some (.int (hsh j k v))) []) := by
  refine g_enter (cc := cX2_hash) (maxL := 4) (ret := (some .int)) (own := RX2) (L := [(0, .int (nI j)), (1, .int (nI k)), (2, .long v)]) (by decide) rfl rfl (Nat.le_of_ble_eq_true rfl) rfl ?_
  intro p e s m args below meth c hin0 C
  refine g_iconst (v := nI 0) C dX2_hash_0 (by decide) ?_
  refine g_iload_n C dX2_hash_1 rfl 0 rfl ?_
  refine g_i2l C dX2_hash_2 ?_
  refine g_iconst (v := nI 1) C dX2_hash_3 (by decide) ?_
  refine g_callSN1 (wr := []) (w2 := []) C (c_X4_mix l g (nI 0) (Int32.toInt64 (nI j)) 1 (by omega)) ⟨va_cnB 3 C.2.2.2.2.1 gX2_hash_X4_mix_n86 rfl rfl rfl (C.2.2.2.2.2.2.2.2.2.2.2.2.2.2.2 _ (List.mem_of_getElem? (i := 11) rfl)) (C.2.2.2.2.1 _ (by decide +kernel)) (by decide +kernel) ⟨Nat.le_of_ble_eq_true rfl, Nat.le_of_ble_eq_true rfl⟩, C.2.2.2.2.1 _ (by decide +kernel), trivial⟩ [] [] rfl rfl rfl rfl rfl (by decide) rfl rfl (Nat.le_of_ble_eq_true rfl) dX2_hash_4 ⟨Nat.le_of_ble_eq_true rfl, Nat.le_of_ble_eq_true rfl⟩ rfl ?_
  refine g_iload_n C dX2_hash_7 rfl 1 rfl ?_
  refine g_lload_n C dX2_hash_8 rfl 2 rfl ?_
  refine g_callSN1 (wr := []) (w2 := []) C (c_X4_mixRow l g (mixL (Int32.toInt64 (nI j)) 1 (nI 0)) k v (by omega)) ⟨va_cnB 3 C.2.2.2.2.1 gX2_hash_X4_mixRow_n90 rfl rfl rfl (C.2.2.2.2.2.2.2.2.2.2.2.2.2.2.2 _ (List.mem_of_getElem? (i := 12) rfl)) (C.2.2.2.2.1 _ (by decide +kernel)) (by decide +kernel) ⟨Nat.le_of_ble_eq_true rfl, Nat.le_of_ble_eq_true rfl⟩, C.2.2.2.2.1 _ (by decide +kernel), trivial⟩ [] [] rfl rfl rfl rfl rfl (by decide) rfl rfl (Nat.le_of_ble_eq_true rfl) dX2_hash_9 ⟨Nat.le_of_ble_eq_true rfl, Nat.le_of_ble_eq_true rfl⟩ rfl ?_
  refine g_iret C dX2_hash_12 (by decide) (by decide) ?_
  exact ⟨rfl, rfl⟩
set_option maxHeartbeats 4000000 in
set_option maxRecDepth 100000 in
theorem c_X2_cellOf (l : Launch) (g : gE) (a : Nat → Nat) (th fz : Nat) (j : Nat) (hh : Int32) (h0 : 1 ≤ th) (h1 : th < 2 ^ 20) : Kt l g yX2_cellOf wsX2_cellOf 0 0 0 0 [.ref (a 0), .int (nI j), .int hh] [(a 0, .inr (3, [.ref (a 1), .ref (a 2), .ref (a 3), .ref (a 4), .ref (a 5), .ref (a 6), .ref (a 7), .int (nI th), .int (nI fz)]))] (kR (some (.int (nI (cel th j hh)))) [(a 0, .inr (3, [.ref (a 1), .ref (a 2), .ref (a 3), .ref (a 4), .ref (a 5), .ref (a 6), .ref (a 7), .int (nI th), .int (nI fz)]))]) := by
  have hinX2 : ∀ w ∈ wsX20, w ∈ wsX2_cellOf := by
    intro w h
    unfold wsX2_cellOf
    simp only [List.mem_cons, List.mem_append]
    simp only [h, or_true, true_or]
  refine g_enter (cc := cX2_cellOf) (maxL := 5) (ret := (some .int)) (own := RX2) (L := [(0, .ref (a 0)), (1, .int (nI j)), (2, .int hh)]) (by decide) rfl rfl (Nat.le_of_ble_eq_true rfl) rfl ?_
  intro p e s m args below meth c hin0 C
  refine g_aload_n C dX2_cellOf_0 rfl 0 rfl ?_
  refine g_get C hinX2 0 rfl rfl 7 (by decide) (by decide +kernel) rfl rfl dX2_cellOf_1 ?_
  refine g_iconst (v := nI 1) C dX2_cellOf_4 (by decide) ?_
  refine g_icmp_ge_n (tgt := 10) C dX2_cellOf_5 (by decide) (by omega) (by omega) (fun c5 => ?_) (fun c5 => ?_)
  · skip
    refine g_iload_n C dX2_cellOf_10 rfl 2 rfl ?_
    refine g_i2l C dX2_cellOf_11 ?_
    refine g_ldc2 (v := 4294967295) C (by decide +kernel) dX2_cellOf_12 ?_
    refine g_land C dX2_cellOf_15 ?_
    refine g_lstore_n (L' := [(3, .long ((Int32.toInt64 hh) &&& (4294967295 : Int64))), (0, .ref (a 0)), (1, .int (nI j)), (2, .int hh)]) C dX2_cellOf_16 rfl (by decide) rfl ?_
    refine g_iload_n C dX2_cellOf_17 rfl 2 rfl ?_
    refine g_aload_n C dX2_cellOf_18 rfl 1 rfl ?_
    refine g_get C hinX2 0 rfl rfl 7 (by decide) (by decide +kernel) rfl rfl dX2_cellOf_19 ?_
    refine g_imul_n C dX2_cellOf_22 ?_
    refine g_lload_n C dX2_cellOf_23 rfl 0 rfl ?_
    refine g_aload_n C dX2_cellOf_24 rfl 1 rfl ?_
    refine g_get C hinX2 0 rfl rfl 7 (by decide) (by decide +kernel) rfl rfl dX2_cellOf_25 ?_
    refine g_i2l C dX2_cellOf_28 ?_
    refine g_lrem C dX2_cellOf_29 (by rw [nI_l (by omega)]; intro h; have := (pk_lEQ (a := th) (b := 0) (by omega) (by decide)).mp h; omega) ?_
    refine g_l2i C dX2_cellOf_30 ?_
    refine g_iadd C dX2_cellOf_31 ?_
    refine g_iret C dX2_cellOf_32 (by decide) (by decide) ?_
    refine ⟨congrArg (fun b => some (Value.int b)) ?_, rfl⟩
    exact celE (by omega) h1
  · skip
    exfalso; omega
set_option maxHeartbeats 4000000 in
set_option maxRecDepth 100000 in
theorem c_X2_turn (l : Launch) (g : gE) (a : Nat → Nat) (co ky : Nat → Int32) (vl : Nat → Int64) (mk : Nat → Int32) (th fz : Nat) (k : Nat) (v : Int64) (sg : Int32) (h0 : 1 ≤ th) (h1 : th ≤ 21) (hk : k < 2 ^ 30) : Kt l g yX2_turn wsX2_turn 4 93 0 0 [.ref (a 0), .int (nI k), .long v, .int sg] [(a 0, .inr (3, [.ref (a 1), .ref (a 2), .ref (a 3), .ref (a 4), .ref (a 5), .ref (a 6), .ref (a 7), .int (nI th), .int (nI fz)])), (a 1, gI g 63 co), (a 2, gI g 63 ky), (a 3, gJ g 63 vl), (a 4, gI g 63 mk)] (kR none [(a 0, .inr (3, [.ref (a 1), .ref (a 2), .ref (a 3), .ref (a 4), .ref (a 5), .ref (a 6), .ref (a 7), .int (nI th), .int (nI fz)])), (a 1, gI g 63 ((tnL th k v sg (co, ky, vl, mk)).1)), (a 2, gI g 63 ((tnL th k v sg (co, ky, vl, mk)).2.1)), (a 3, gJ g 63 ((tnL th k v sg (co, ky, vl, mk)).2.2.1)), (a 4, gI g 63 ((tnL th k v sg (co, ky, vl, mk)).2.2.2))]) := by
  have hinX2 : ∀ w ∈ wsX20, w ∈ wsX2_turn := by
    intro w h
    unfold wsX2_turn
    simp only [List.mem_cons, List.mem_append]
    simp only [h, or_true, true_or]
  refine g_enter (cc := cX2_turn) (maxL := 8) (ret := none) (own := RX2) (L := [(0, .ref (a 0)), (1, .int (nI k)), (2, .long v), (4, .int sg)]) (by decide) rfl rfl (Nat.le_of_ble_eq_true rfl) rfl ?_
  intro p e s m args below meth c hin0 C
  refine g_iconst (v := nI 3) C dX2_turn_0 (by decide) ?_
  refine g_iload_n C dX2_turn_1 rfl 1 rfl ?_
  refine g_lload_n C dX2_turn_2 rfl 2 rfl ?_
  refine g_callS1 (wr := [(a 0, .inr (3, [.ref (a 1), .ref (a 2), .ref (a 3), .ref (a 4), .ref (a 5), .ref (a 6), .ref (a 7), .int (nI th), .int (nI fz)])), (a 1, gI g 63 co), (a 2, gI g 63 ky), (a 3, gJ g 63 vl), (a 4, gI g 63 mk)]) (w2 := [(a 0, .inr (3, [.ref (a 1), .ref (a 2), .ref (a 3), .ref (a 4), .ref (a 5), .ref (a 6), .ref (a 7), .int (nI th), .int (nI fz)])), (a 1, gI g 63 co), (a 2, gI g 63 ky), (a 3, gJ g 63 vl), (a 4, gI g 63 mk)]) C (c_X2_hash l g 3 k v (by omega)) (va_cwS 3 C.2.2.2.2.1 gX2_turn_X2_hash rfl rfl rfl (by decide +kernel) ⟨Nat.le_of_ble_eq_true rfl, Nat.le_of_ble_eq_true rfl⟩) [] [0, 1, 2, 3, 4] rfl rfl rfl rfl rfl (by decide) rfl rfl (Nat.le_of_ble_eq_true rfl) dX2_turn_3 ⟨Nat.le_of_ble_eq_true rfl, Nat.le_of_ble_eq_true rfl⟩ rfl ?_
  refine g_istore (L' := [(5, .int (hsh 3 k v)), (0, .ref (a 0)), (1, .int (nI k)), (2, .long v), (4, .int sg)]) C dX2_turn_6 (by decide) rfl ?_
  refine g_iconst (v := nI 0) C dX2_turn_8 (by decide) ?_
  refine g_istore (L' := [(6, .int (nI 0)), (5, .int (hsh 3 k v)), (0, .ref (a 0)), (1, .int (nI k)), (2, .long v), (4, .int sg)]) C dX2_turn_9 (by decide) rfl ?_
  refine g_L (L2 := [(0, .ref (a 0)), (1, .int (nI k)), (2, .long v), (4, .int sg), (5, .int (hsh 3 k v)), (6, .int (nI 0))]) [2, 3, 4, 5, 1, 0] rfl ?_
  refine g_up 3 0 (fun _ => True) (fun j => [(0, .ref (a 0)), (1, .int (nI k)), (2, .long v), (4, .int sg), (5, .int (hsh 3 k v)), (6, .int (nI j))]) (fun j => [(a 0, .inr (3, [.ref (a 1), .ref (a 2), .ref (a 3), .ref (a 4), .ref (a 5), .ref (a 6), .ref (a 7), .int (nI th), .int (nI fz)])), (a 1, gI g 63 ((it (tnS th k v sg) (co, ky, vl, mk) j).1)), (a 2, gI g 63 ((it (tnS th k v sg) (co, ky, vl, mk) j).2.1)), (a 3, gJ g 63 ((it (tnS th k v sg) (co, ky, vl, mk) j).2.2.1)), (a 4, gI g 63 ((it (tnS th k v sg) (co, ky, vl, mk) j).2.2.2))]) (by omega) (trivial) ?_ ?_
  · intro hPj
    try dsimp only
    refine g_iload C dX2_turn_11 5 rfl ?_
    refine g_iconst (v := nI 3) C dX2_turn_13 (by decide) ?_
    refine g_icmp_ge_n (tgt := 96) C dX2_turn_14 (by decide) (by omega) (by omega) (fun c14 => ?_) (fun c14 => ?_)
    · skip
      refine g_vret C dX2_turn_96 (by decide) (by decide) ?_
      exact ⟨rfl, rfl⟩
    · skip
      exfalso; omega
  · intro j hlj huj hPj ihj
    try dsimp only at ihj ⊢
    have hc := cel_lt (h := hsh j k v) (show 0 < th by omega) huj h1
    refine g_iload C dX2_turn_11 5 rfl ?_
    refine g_iconst (v := nI 3) C dX2_turn_13 (by decide) ?_
    refine g_icmp_ge_n (tgt := 96) C dX2_turn_14 (by decide) (by omega) (by omega) (fun c14 => ?_) (fun c14 => ?_)
    · skip
      exfalso; omega
    · skip
      refine g_aload_n C dX2_turn_17 rfl 0 rfl ?_
      refine g_iload C dX2_turn_18 5 rfl ?_
      refine g_iload C dX2_turn_20 5 rfl ?_
      refine g_iload_n C dX2_turn_22 rfl 1 rfl ?_
      refine g_lload_n C dX2_turn_23 rfl 2 rfl ?_
      refine g_callS1 (wr := [(a 0, .inr (3, [.ref (a 1), .ref (a 2), .ref (a 3), .ref (a 4), .ref (a 5), .ref (a 6), .ref (a 7), .int (nI th), .int (nI fz)])), (a 1, gI g 63 ((it (tnS th k v sg) (co, ky, vl, mk) j).1)), (a 2, gI g 63 ((it (tnS th k v sg) (co, ky, vl, mk) j).2.1)), (a 3, gJ g 63 ((it (tnS th k v sg) (co, ky, vl, mk) j).2.2.1)), (a 4, gI g 63 ((it (tnS th k v sg) (co, ky, vl, mk) j).2.2.2))]) (w2 := [(a 0, .inr (3, [.ref (a 1), .ref (a 2), .ref (a 3), .ref (a 4), .ref (a 5), .ref (a 6), .ref (a 7), .int (nI th), .int (nI fz)])), (a 1, gI g 63 ((it (tnS th k v sg) (co, ky, vl, mk) j).1)), (a 2, gI g 63 ((it (tnS th k v sg) (co, ky, vl, mk) j).2.1)), (a 3, gJ g 63 ((it (tnS th k v sg) (co, ky, vl, mk) j).2.2.1)), (a 4, gI g 63 ((it (tnS th k v sg) (co, ky, vl, mk) j).2.2.2))]) C (c_X2_hash l g j k v (by omega)) (va_cwS 3 C.2.2.2.2.1 gX2_turn_X2_hash rfl rfl rfl (by decide +kernel) ⟨Nat.le_of_ble_eq_true rfl, Nat.le_of_ble_eq_true rfl⟩) [] [0, 1, 2, 3, 4] rfl rfl rfl rfl rfl (by decide) rfl rfl (Nat.le_of_ble_eq_true rfl) dX2_turn_24 ⟨Nat.le_of_ble_eq_true rfl, Nat.le_of_ble_eq_true rfl⟩ rfl ?_
      refine g_callV1 (wr := [(a 1, gI g 63 ((it (tnS th k v sg) (co, ky, vl, mk) j).1)), (a 2, gI g 63 ((it (tnS th k v sg) (co, ky, vl, mk) j).2.1)), (a 3, gJ g 63 ((it (tnS th k v sg) (co, ky, vl, mk) j).2.2.1)), (a 4, gI g 63 ((it (tnS th k v sg) (co, ky, vl, mk) j).2.2.2))]) (w2 := [(a 1, gI g 63 ((it (tnS th k v sg) (co, ky, vl, mk) j).1)), (a 2, gI g 63 ((it (tnS th k v sg) (co, ky, vl, mk) j).2.1)), (a 3, gJ g 63 ((it (tnS th k v sg) (co, ky, vl, mk) j).2.2.1)), (a 4, gI g 63 ((it (tnS th k v sg) (co, ky, vl, mk) j).2.2.2)), (a 0, .inr (3, [.ref (a 1), .ref (a 2), .ref (a 3), .ref (a 4), .ref (a 5), .ref (a 6), .ref (a 7), .int (nI th), .int (nI fz)]))]) C (c_X2_cellOf l g a th fz j (hsh j k v) (by omega) (by omega)) (cwV 2 C.2.2.2.2.1 gX2_turn_X2_cellOf rfl rfl rfl (by decide +kernel) ⟨Nat.le_of_ble_eq_true rfl, Nat.le_of_ble_eq_true rfl⟩) 0 rfl rfl rfl [0] [1, 2, 3, 4] rfl rfl rfl rfl rfl (by decide) rfl rfl (Nat.le_of_ble_eq_true rfl) dX2_turn_27 ⟨Nat.le_of_ble_eq_true rfl, Nat.le_of_ble_eq_true rfl⟩ rfl ?_
      refine g_istore (L' := [(7, .int (nI (cel th j (hsh j k v)))), (0, .ref (a 0)), (1, .int (nI k)), (2, .long v), (4, .int sg), (5, .int (hsh 3 k v)), (6, .int (nI j))]) C dX2_turn_30 (by decide) rfl ?_
      refine g_iload C dX2_turn_32 0 rfl ?_
      refine g_if_lt_n (tgt := 90) C dX2_turn_34 (by decide) (by omega) ?_
      refine g_iload C dX2_turn_37 0 rfl ?_
      refine g_bipush (v := nI 63) C dX2_turn_39 (by decide) ?_
      refine g_icmp_ge_n (tgt := 90) C dX2_turn_41 (by decide) (by omega) (by omega) (fun c41 => ?_) (fun c41 => ?_)
      · skip
        exfalso; omega
      · skip
        refine g_aload_n C dX2_turn_44 rfl 1 rfl ?_
        refine g_get C hinX2 4 rfl rfl 0 (by decide) (by decide +kernel) rfl rfl dX2_turn_45 ?_
        refine g_iload C dX2_turn_48 0 rfl ?_
        refine g_dup2 C dX2_turn_50 rfl rfl ?_
        refine g_iald C 0 rfl (by omega) (by decide) dX2_turn_51 ?_
        refine g_iload C dX2_turn_52 4 rfl ?_
        refine g_iadd C dX2_turn_54 ?_
        refine g_iast (w2 := [(a 1, gI g 63 (va_up ((it (tnS th k v sg) (co, ky, vl, mk) j).1) (cel th j (hsh j k v)) ((((it (tnS th k v sg) (co, ky, vl, mk) j).1) (cel th j (hsh j k v))) + sg))), (a 2, gI g 63 ((it (tnS th k v sg) (co, ky, vl, mk) j).2.1)), (a 3, gJ g 63 ((it (tnS th k v sg) (co, ky, vl, mk) j).2.2.1)), (a 4, gI g 63 ((it (tnS th k v sg) (co, ky, vl, mk) j).2.2.2)), (a 0, .inr (3, [.ref (a 1), .ref (a 2), .ref (a 3), .ref (a 4), .ref (a 5), .ref (a 6), .ref (a 7), .int (nI th), .int (nI fz)]))]) C 0 rfl (by omega) (by decide) rfl dX2_turn_55 ?_
        refine g_aload_n C dX2_turn_56 rfl 1 rfl ?_
        refine g_get C hinX2 4 rfl rfl 1 (by decide) (by decide +kernel) rfl rfl dX2_turn_57 ?_
        refine g_iload C dX2_turn_60 0 rfl ?_
        refine g_dup2 C dX2_turn_62 rfl rfl ?_
        refine g_iald C 1 rfl (by omega) (by decide) dX2_turn_63 ?_
        refine g_iload_n C dX2_turn_64 rfl 2 rfl ?_
        refine g_ixor C dX2_turn_65 ?_
        refine g_iast (w2 := [(a 1, gI g 63 (va_up ((it (tnS th k v sg) (co, ky, vl, mk) j).1) (cel th j (hsh j k v)) ((((it (tnS th k v sg) (co, ky, vl, mk) j).1) (cel th j (hsh j k v))) + sg))), (a 2, gI g 63 (va_up ((it (tnS th k v sg) (co, ky, vl, mk) j).2.1) (cel th j (hsh j k v)) ((((it (tnS th k v sg) (co, ky, vl, mk) j).2.1) (cel th j (hsh j k v))) ^^^ (nI k)))), (a 3, gJ g 63 ((it (tnS th k v sg) (co, ky, vl, mk) j).2.2.1)), (a 4, gI g 63 ((it (tnS th k v sg) (co, ky, vl, mk) j).2.2.2)), (a 0, .inr (3, [.ref (a 1), .ref (a 2), .ref (a 3), .ref (a 4), .ref (a 5), .ref (a 6), .ref (a 7), .int (nI th), .int (nI fz)]))]) C 1 rfl (by omega) (by decide) rfl dX2_turn_66 ?_
        refine g_aload_n C dX2_turn_67 rfl 1 rfl ?_
        refine g_get C hinX2 4 rfl rfl 2 (by decide) (by decide +kernel) rfl rfl dX2_turn_68 ?_
        refine g_iload C dX2_turn_71 0 rfl ?_
        refine g_dup2 C dX2_turn_73 rfl rfl ?_
        refine g_lald C 2 rfl (by omega) (by decide) dX2_turn_74 ?_
        refine g_lload_n C dX2_turn_75 rfl 3 rfl ?_
        refine g_lxor C dX2_turn_76 ?_
        refine g_last (w2 := [(a 1, gI g 63 (va_up ((it (tnS th k v sg) (co, ky, vl, mk) j).1) (cel th j (hsh j k v)) ((((it (tnS th k v sg) (co, ky, vl, mk) j).1) (cel th j (hsh j k v))) + sg))), (a 2, gI g 63 (va_up ((it (tnS th k v sg) (co, ky, vl, mk) j).2.1) (cel th j (hsh j k v)) ((((it (tnS th k v sg) (co, ky, vl, mk) j).2.1) (cel th j (hsh j k v))) ^^^ (nI k)))), (a 3, gJ g 63 (va_up ((it (tnS th k v sg) (co, ky, vl, mk) j).2.2.1) (cel th j (hsh j k v)) ((((it (tnS th k v sg) (co, ky, vl, mk) j).2.2.1) (cel th j (hsh j k v))) ^^^ v))), (a 4, gI g 63 ((it (tnS th k v sg) (co, ky, vl, mk) j).2.2.2)), (a 0, .inr (3, [.ref (a 1), .ref (a 2), .ref (a 3), .ref (a 4), .ref (a 5), .ref (a 6), .ref (a 7), .int (nI th), .int (nI fz)]))]) C 2 rfl (by omega) (by decide) rfl dX2_turn_77 ?_
        refine g_aload_n C dX2_turn_78 rfl 1 rfl ?_
        refine g_get C hinX2 4 rfl rfl 3 (by decide) (by decide +kernel) rfl rfl dX2_turn_79 ?_
        refine g_iload C dX2_turn_82 0 rfl ?_
        refine g_dup2 C dX2_turn_84 rfl rfl ?_
        refine g_iald C 3 rfl (by omega) (by decide) dX2_turn_85 ?_
        refine g_iload C dX2_turn_86 5 rfl ?_
        refine g_ixor C dX2_turn_88 ?_
        refine g_iast (w2 := [(a 1, gI g 63 (va_up ((it (tnS th k v sg) (co, ky, vl, mk) j).1) (cel th j (hsh j k v)) ((((it (tnS th k v sg) (co, ky, vl, mk) j).1) (cel th j (hsh j k v))) + sg))), (a 2, gI g 63 (va_up ((it (tnS th k v sg) (co, ky, vl, mk) j).2.1) (cel th j (hsh j k v)) ((((it (tnS th k v sg) (co, ky, vl, mk) j).2.1) (cel th j (hsh j k v))) ^^^ (nI k)))), (a 3, gJ g 63 (va_up ((it (tnS th k v sg) (co, ky, vl, mk) j).2.2.1) (cel th j (hsh j k v)) ((((it (tnS th k v sg) (co, ky, vl, mk) j).2.2.1) (cel th j (hsh j k v))) ^^^ v))), (a 4, gI g 63 (va_up ((it (tnS th k v sg) (co, ky, vl, mk) j).2.2.2) (cel th j (hsh j k v)) ((((it (tnS th k v sg) (co, ky, vl, mk) j).2.2.2) (cel th j (hsh j k v))) ^^^ (hsh 3 k v)))), (a 0, .inr (3, [.ref (a 1), .ref (a 2), .ref (a 3), .ref (a 4), .ref (a 5), .ref (a 6), .ref (a 7), .int (nI th), .int (nI fz)]))]) C 3 rfl (by omega) (by decide) rfl dX2_turn_89 ?_
        refine g_iinc_n (d := 1) (L' := [(6, .int (nI (j + 1))), (7, .int (nI (cel th j (hsh j k v)))), (0, .ref (a 0)), (1, .int (nI k)), (2, .long v), (4, .int sg), (5, .int (hsh 3 k v))]) C dX2_turn_90 6 rfl (by decide) (by decide) rfl ?_
        refine g_goto (tgt := 11) C dX2_turn_93 (by decide) ?_
        refine g_L (L2 := [(0, .ref (a 0)), (1, .int (nI k)), (2, .long v), (4, .int sg), (5, .int (hsh 3 k v)), (6, .int (nI (j + 1)))]) [2, 3, 4, 5, 6, 0] rfl ?_
        refine g_perm (w2 := [(a 0, .inr (3, [.ref (a 1), .ref (a 2), .ref (a 3), .ref (a 4), .ref (a 5), .ref (a 6), .ref (a 7), .int (nI th), .int (nI fz)])), (a 1, gI g 63 (va_up ((it (tnS th k v sg) (co, ky, vl, mk) j).1) (cel th j (hsh j k v)) ((((it (tnS th k v sg) (co, ky, vl, mk) j).1) (cel th j (hsh j k v))) + sg))), (a 2, gI g 63 (va_up ((it (tnS th k v sg) (co, ky, vl, mk) j).2.1) (cel th j (hsh j k v)) ((((it (tnS th k v sg) (co, ky, vl, mk) j).2.1) (cel th j (hsh j k v))) ^^^ (nI k)))), (a 3, gJ g 63 (va_up ((it (tnS th k v sg) (co, ky, vl, mk) j).2.2.1) (cel th j (hsh j k v)) ((((it (tnS th k v sg) (co, ky, vl, mk) j).2.2.1) (cel th j (hsh j k v))) ^^^ v))), (a 4, gI g 63 (va_up ((it (tnS th k v sg) (co, ky, vl, mk) j).2.2.2) (cel th j (hsh j k v)) ((((it (tnS th k v sg) (co, ky, vl, mk) j).2.2.2) (cel th j (hsh j k v))) ^^^ (hsh 3 k v))))]) [4, 0, 1, 2, 3] rfl rfl rfl ?_
        exact ihj (trivial)
set_option maxHeartbeats 4000000 in
set_option maxRecDepth 100000 in
theorem c_X2_isPure (l : Launch) (g : gE) (a : Nat → Nat) (co ky : Nat → Int32) (vl : Nat → Int64) (mk : Nat → Int32) (th fz : Nat) (q : Nat) (hq : q < 63) : Kt l g yX2_isPure wsX2_isPure 4 93 0 0 [.ref (a 0), .int (nI q)] [(a 0, .inr (3, [.ref (a 1), .ref (a 2), .ref (a 3), .ref (a 4), .ref (a 5), .ref (a 6), .ref (a 7), .int (nI th), .int (nI fz)])), (a 1, gI g 63 co), (a 2, gI g 63 ky), (a 3, gJ g 63 vl), (a 4, gI g 63 mk)] (kR (some (.int (bI (pur (co, ky, vl, mk) q)))) [(a 0, .inr (3, [.ref (a 1), .ref (a 2), .ref (a 3), .ref (a 4), .ref (a 5), .ref (a 6), .ref (a 7), .int (nI th), .int (nI fz)])), (a 1, gI g 63 co), (a 2, gI g 63 ky), (a 3, gJ g 63 vl), (a 4, gI g 63 mk)]) := by
  have hinX2 : ∀ w ∈ wsX20, w ∈ wsX2_isPure := by
    intro w h
    unfold wsX2_isPure
    simp only [List.mem_cons, List.mem_append]
    simp only [h, or_true, true_or]
  refine g_enter (cc := cX2_isPure) (maxL := 2) (ret := (some .boolean)) (own := RX2) (L := [(0, .ref (a 0)), (1, .int (nI q))]) (by decide) rfl rfl (Nat.le_of_ble_eq_true rfl) rfl ?_
  intro p e s m args below meth c hin0 C
  refine g_aload_n C dX2_isPure_0 rfl 0 rfl ?_
  refine g_get C hinX2 0 rfl rfl 0 (by decide) (by decide +kernel) rfl rfl dX2_isPure_1 ?_
  refine g_iload_n C dX2_isPure_4 rfl 1 rfl ?_
  refine g_iald C 1 rfl (by omega) (by decide) dX2_isPure_5 ?_
  refine g_iconst (v := nI 1) C dX2_isPure_6 (by decide) ?_
  refine g_icmp_eq (tgt := 22) C dX2_isPure_7 (by decide) (fun c7 => ?_) (fun c7 => ?_)
  · skip
    refine g_aload_n C dX2_isPure_22 rfl 0 rfl ?_
    refine g_get C hinX2 0 rfl rfl 1 (by decide) (by decide +kernel) rfl rfl dX2_isPure_23 ?_
    refine g_iload_n C dX2_isPure_26 rfl 1 rfl ?_
    refine g_iald C 2 rfl (by omega) (by decide) dX2_isPure_27 ?_
    refine g_if_lt (tgt := 43) C dX2_isPure_28 (by decide) (fun c28 => ?_) (fun c28 => ?_)
    · skip
      refine g_iconst (v := nI 0) C dX2_isPure_43 (by decide) ?_
      refine g_st (st2 := [.int (bI false)]) rfl ?_
      refine g_zret C dX2_isPure_44 (by decide) (by decide) ?_
      refine ⟨congrArg (fun b => some (Value.int (bI b))) ?_, rfl⟩
      first | exact (pur_f (x := (co, ky, vl, mk)) (q := q) (fun z => z.2.1 c28)).symm | exact (pur_f (x := (co, ky, vl, mk)) (q := q) (fun z => c40 z.2.2.1)).symm
    · skip
      refine g_aload_n C dX2_isPure_31 rfl 0 rfl ?_
      refine g_get C hinX2 0 rfl rfl 1 (by decide) (by decide +kernel) rfl rfl dX2_isPure_32 ?_
      refine g_iload_n C dX2_isPure_35 rfl 1 rfl ?_
      refine g_iald C 2 rfl (by omega) (by decide) dX2_isPure_36 ?_
      refine g_sipush (v := nI 256) C dX2_isPure_37 (by decide) ?_
      refine g_icmp_lt (tgt := 45) C dX2_isPure_40 (by decide) (fun c40 => ?_) (fun c40 => ?_)
      · skip
        refine g_aload_n C dX2_isPure_45 rfl 0 rfl ?_
        refine g_get C hinX2 0 rfl rfl 3 (by decide) (by decide +kernel) rfl rfl dX2_isPure_46 ?_
        refine g_iload_n C dX2_isPure_49 rfl 1 rfl ?_
        refine g_iald C 4 rfl (by omega) (by decide) dX2_isPure_50 ?_
        refine g_iconst (v := nI 3) C dX2_isPure_51 (by decide) ?_
        refine g_aload_n C dX2_isPure_52 rfl 0 rfl ?_
        refine g_get C hinX2 0 rfl rfl 1 (by decide) (by decide +kernel) rfl rfl dX2_isPure_53 ?_
        refine g_iload_n C dX2_isPure_56 rfl 1 rfl ?_
        refine g_iald C 2 rfl (by omega) (by decide) dX2_isPure_57 ?_
        obtain ⟨kk, hkk, ek⟩ := key_n c28 c40
        refine g_st (st2 := [.int (nI kk), .int (nI 3), .int (mk q)]) (by rw [ek]) ?_
        refine g_aload_n C dX2_isPure_58 rfl 0 rfl ?_
        refine g_get C hinX2 0 rfl rfl 2 (by decide) (by decide +kernel) rfl rfl dX2_isPure_59 ?_
        refine g_iload_n C dX2_isPure_62 rfl 1 rfl ?_
        refine g_lald C 3 rfl (by omega) (by decide) dX2_isPure_63 ?_
        refine g_callS1 (wr := [(a 0, .inr (3, [.ref (a 1), .ref (a 2), .ref (a 3), .ref (a 4), .ref (a 5), .ref (a 6), .ref (a 7), .int (nI th), .int (nI fz)])), (a 1, gI g 63 co), (a 2, gI g 63 ky), (a 3, gJ g 63 vl), (a 4, gI g 63 mk)]) (w2 := [(a 0, .inr (3, [.ref (a 1), .ref (a 2), .ref (a 3), .ref (a 4), .ref (a 5), .ref (a 6), .ref (a 7), .int (nI th), .int (nI fz)])), (a 1, gI g 63 co), (a 2, gI g 63 ky), (a 3, gJ g 63 vl), (a 4, gI g 63 mk)]) C (c_X2_hash l g 3 kk (vl q) (by omega)) (va_cwS 3 C.2.2.2.2.1 gX2_isPure_X2_hash rfl rfl rfl (by decide +kernel) ⟨Nat.le_of_ble_eq_true rfl, Nat.le_of_ble_eq_true rfl⟩) [] [0, 1, 2, 3, 4] rfl rfl rfl rfl rfl (by decide) rfl rfl (Nat.le_of_ble_eq_true rfl) dX2_isPure_64 ⟨Nat.le_of_ble_eq_true rfl, Nat.le_of_ble_eq_true rfl⟩ rfl ?_
        refine g_icmp_ne (tgt := 74) C dX2_isPure_67 (by decide) (fun c67 => ?_) (fun c67 => ?_)
        · skip
          refine g_iconst (v := nI 0) C dX2_isPure_74 (by decide) ?_
          refine g_st (st2 := [.int (bI false)]) rfl ?_
          refine g_zret C dX2_isPure_75 (by decide) (by decide) ?_
          refine ⟨congrArg (fun b => some (Value.int (bI b))) ?_, rfl⟩
          refine (pur_f (x := (co, ky, vl, mk)) (q := q) (fun z => c67 ?_)).symm
          have h9 : mk q = hsh 3 (ky q).toNatClampNeg (vl q) := z.2.2.2
          rw [ek, nI_clamp (by omega)] at h9
          exact h9
        · skip
          refine g_iconst (v := nI 1) C dX2_isPure_70 (by decide) ?_
          refine g_goto (tgt := 75) C dX2_isPure_71 (by decide) ?_
          refine g_st (st2 := [.int (bI true)]) rfl ?_
          refine g_zret C dX2_isPure_75 (by decide) (by decide) ?_
          have ha : co q = nI 1 ∨ co q = -1 := by first | exact Or.inl c7 | exact Or.inr c17
          have hb : mk q = hsh 3 (ky q).toNatClampNeg (vl q) := by rw [ek, nI_clamp (by omega)]; exact c67
          refine ⟨congrArg (fun b => some (Value.int (bI b))) ?_, rfl⟩
          exact (pur_t (x := (co, ky, vl, mk)) (q := q) ⟨ha, c28, c40, hb⟩).symm
      · skip
        refine g_iconst (v := nI 0) C dX2_isPure_43 (by decide) ?_
        refine g_st (st2 := [.int (bI false)]) rfl ?_
        refine g_zret C dX2_isPure_44 (by decide) (by decide) ?_
        refine ⟨congrArg (fun b => some (Value.int (bI b))) ?_, rfl⟩
        first | exact (pur_f (x := (co, ky, vl, mk)) (q := q) (fun z => z.2.1 c28)).symm | exact (pur_f (x := (co, ky, vl, mk)) (q := q) (fun z => c40 z.2.2.1)).symm
  · skip
    refine g_aload_n C dX2_isPure_10 rfl 0 rfl ?_
    refine g_get C hinX2 0 rfl rfl 0 (by decide) (by decide +kernel) rfl rfl dX2_isPure_11 ?_
    refine g_iload_n C dX2_isPure_14 rfl 1 rfl ?_
    refine g_iald C 1 rfl (by omega) (by decide) dX2_isPure_15 ?_
    refine g_iconst (v := (-1)) C dX2_isPure_16 (by decide) ?_
    refine g_icmp_eq (tgt := 22) C dX2_isPure_17 (by decide) (fun c17 => ?_) (fun c17 => ?_)
    · skip
      refine g_aload_n C dX2_isPure_22 rfl 0 rfl ?_
      refine g_get C hinX2 0 rfl rfl 1 (by decide) (by decide +kernel) rfl rfl dX2_isPure_23 ?_
      refine g_iload_n C dX2_isPure_26 rfl 1 rfl ?_
      refine g_iald C 2 rfl (by omega) (by decide) dX2_isPure_27 ?_
      refine g_if_lt (tgt := 43) C dX2_isPure_28 (by decide) (fun c28 => ?_) (fun c28 => ?_)
      · skip
        refine g_iconst (v := nI 0) C dX2_isPure_43 (by decide) ?_
        refine g_st (st2 := [.int (bI false)]) rfl ?_
        refine g_zret C dX2_isPure_44 (by decide) (by decide) ?_
        refine ⟨congrArg (fun b => some (Value.int (bI b))) ?_, rfl⟩
        first | exact (pur_f (x := (co, ky, vl, mk)) (q := q) (fun z => z.2.1 c28)).symm | exact (pur_f (x := (co, ky, vl, mk)) (q := q) (fun z => c40 z.2.2.1)).symm
      · skip
        refine g_aload_n C dX2_isPure_31 rfl 0 rfl ?_
        refine g_get C hinX2 0 rfl rfl 1 (by decide) (by decide +kernel) rfl rfl dX2_isPure_32 ?_
        refine g_iload_n C dX2_isPure_35 rfl 1 rfl ?_
        refine g_iald C 2 rfl (by omega) (by decide) dX2_isPure_36 ?_
        refine g_sipush (v := nI 256) C dX2_isPure_37 (by decide) ?_
        refine g_icmp_lt (tgt := 45) C dX2_isPure_40 (by decide) (fun c40 => ?_) (fun c40 => ?_)
        · skip
          refine g_aload_n C dX2_isPure_45 rfl 0 rfl ?_
          refine g_get C hinX2 0 rfl rfl 3 (by decide) (by decide +kernel) rfl rfl dX2_isPure_46 ?_
          refine g_iload_n C dX2_isPure_49 rfl 1 rfl ?_
          refine g_iald C 4 rfl (by omega) (by decide) dX2_isPure_50 ?_
          refine g_iconst (v := nI 3) C dX2_isPure_51 (by decide) ?_
          refine g_aload_n C dX2_isPure_52 rfl 0 rfl ?_
          refine g_get C hinX2 0 rfl rfl 1 (by decide) (by decide +kernel) rfl rfl dX2_isPure_53 ?_
          refine g_iload_n C dX2_isPure_56 rfl 1 rfl ?_
          refine g_iald C 2 rfl (by omega) (by decide) dX2_isPure_57 ?_
          obtain ⟨kk, hkk, ek⟩ := key_n c28 c40
          refine g_st (st2 := [.int (nI kk), .int (nI 3), .int (mk q)]) (by rw [ek]) ?_
          refine g_aload_n C dX2_isPure_58 rfl 0 rfl ?_
          refine g_get C hinX2 0 rfl rfl 2 (by decide) (by decide +kernel) rfl rfl dX2_isPure_59 ?_
          refine g_iload_n C dX2_isPure_62 rfl 1 rfl ?_
          refine g_lald C 3 rfl (by omega) (by decide) dX2_isPure_63 ?_
          refine g_callS1 (wr := [(a 0, .inr (3, [.ref (a 1), .ref (a 2), .ref (a 3), .ref (a 4), .ref (a 5), .ref (a 6), .ref (a 7), .int (nI th), .int (nI fz)])), (a 1, gI g 63 co), (a 2, gI g 63 ky), (a 3, gJ g 63 vl), (a 4, gI g 63 mk)]) (w2 := [(a 0, .inr (3, [.ref (a 1), .ref (a 2), .ref (a 3), .ref (a 4), .ref (a 5), .ref (a 6), .ref (a 7), .int (nI th), .int (nI fz)])), (a 1, gI g 63 co), (a 2, gI g 63 ky), (a 3, gJ g 63 vl), (a 4, gI g 63 mk)]) C (c_X2_hash l g 3 kk (vl q) (by omega)) (va_cwS 3 C.2.2.2.2.1 gX2_isPure_X2_hash rfl rfl rfl (by decide +kernel) ⟨Nat.le_of_ble_eq_true rfl, Nat.le_of_ble_eq_true rfl⟩) [] [0, 1, 2, 3, 4] rfl rfl rfl rfl rfl (by decide) rfl rfl (Nat.le_of_ble_eq_true rfl) dX2_isPure_64 ⟨Nat.le_of_ble_eq_true rfl, Nat.le_of_ble_eq_true rfl⟩ rfl ?_
          refine g_icmp_ne (tgt := 74) C dX2_isPure_67 (by decide) (fun c67 => ?_) (fun c67 => ?_)
          · skip
            refine g_iconst (v := nI 0) C dX2_isPure_74 (by decide) ?_
            refine g_st (st2 := [.int (bI false)]) rfl ?_
            refine g_zret C dX2_isPure_75 (by decide) (by decide) ?_
            refine ⟨congrArg (fun b => some (Value.int (bI b))) ?_, rfl⟩
            refine (pur_f (x := (co, ky, vl, mk)) (q := q) (fun z => c67 ?_)).symm
            have h9 : mk q = hsh 3 (ky q).toNatClampNeg (vl q) := z.2.2.2
            rw [ek, nI_clamp (by omega)] at h9
            exact h9
          · skip
            refine g_iconst (v := nI 1) C dX2_isPure_70 (by decide) ?_
            refine g_goto (tgt := 75) C dX2_isPure_71 (by decide) ?_
            refine g_st (st2 := [.int (bI true)]) rfl ?_
            refine g_zret C dX2_isPure_75 (by decide) (by decide) ?_
            have ha : co q = nI 1 ∨ co q = -1 := by first | exact Or.inl c7 | exact Or.inr c17
            have hb : mk q = hsh 3 (ky q).toNatClampNeg (vl q) := by rw [ek, nI_clamp (by omega)]; exact c67
            refine ⟨congrArg (fun b => some (Value.int (bI b))) ?_, rfl⟩
            exact (pur_t (x := (co, ky, vl, mk)) (q := q) ⟨ha, c28, c40, hb⟩).symm
        · skip
          refine g_iconst (v := nI 0) C dX2_isPure_43 (by decide) ?_
          refine g_st (st2 := [.int (bI false)]) rfl ?_
          refine g_zret C dX2_isPure_44 (by decide) (by decide) ?_
          refine ⟨congrArg (fun b => some (Value.int (bI b))) ?_, rfl⟩
          first | exact (pur_f (x := (co, ky, vl, mk)) (q := q) (fun z => z.2.1 c28)).symm | exact (pur_f (x := (co, ky, vl, mk)) (q := q) (fun z => c40 z.2.2.1)).symm
    · skip
      refine g_iconst (v := nI 0) C dX2_isPure_20 (by decide) ?_
      refine g_st (st2 := [.int (bI false)]) rfl ?_
      refine g_zret C dX2_isPure_21 (by decide) (by decide) ?_
      refine ⟨congrArg (fun b => some (Value.int (bI b))) ?_, rfl⟩
      exact (pur_f (x := (co, ky, vl, mk)) (q := q) (fun z => z.1.elim c7 c17)).symm
set_option maxHeartbeats 4000000 in
set_option maxRecDepth 100000 in
theorem c_X2_firstPure (l : Launch) (g : gE) (a : Nat → Nat) (co ky : Nat → Int32) (vl : Nat → Int64) (mk : Nat → Int32) (th fz : Nat) : Kt l g yX2_firstPure wsX2_firstPure 5 114 0 0 [.ref (a 0)] [(a 0, .inr (3, [.ref (a 1), .ref (a 2), .ref (a 3), .ref (a 4), .ref (a 5), .ref (a 6), .ref (a 7), .int (nI th), .int (nI fz)])), (a 1, gI g 63 co), (a 2, gI g 63 ky), (a 3, gJ g 63 vl), (a 4, gI g 63 mk)] (kR (some (.int (fpI (pur (co, ky, vl, mk)) 63))) [(a 0, .inr (3, [.ref (a 1), .ref (a 2), .ref (a 3), .ref (a 4), .ref (a 5), .ref (a 6), .ref (a 7), .int (nI th), .int (nI fz)])), (a 1, gI g 63 co), (a 2, gI g 63 ky), (a 3, gJ g 63 vl), (a 4, gI g 63 mk)]) := by
  refine g_enter (cc := cX2_firstPure) (maxL := 2) (ret := (some .int)) (own := RX2) (L := [(0, .ref (a 0))]) (by decide) rfl rfl (Nat.le_of_ble_eq_true rfl) rfl ?_
  intro p e s m args below meth c hin0 C
  refine g_iconst (v := nI 0) C dX2_firstPure_0 (by decide) ?_
  refine g_istore_n (L' := [(1, .int (nI 0)), (0, .ref (a 0))]) C dX2_firstPure_1 rfl (by decide) rfl ?_
  refine g_up 63 0 (fun j => ∀ q, q < j → pur (co, ky, vl, mk) q = false) (fun j => [(1, .int (nI j)), (0, .ref (a 0))]) (fun j => [(a 0, .inr (3, [.ref (a 1), .ref (a 2), .ref (a 3), .ref (a 4), .ref (a 5), .ref (a 6), .ref (a 7), .int (nI th), .int (nI fz)])), (a 1, gI g 63 co), (a 2, gI g 63 ky), (a 3, gJ g 63 vl), (a 4, gI g 63 mk)]) (by omega) (fun q hq => absurd hq (Nat.not_lt_zero q)) ?_ ?_
  · intro hPj
    try dsimp only
    refine g_iload_n C dX2_firstPure_2 rfl 0 rfl ?_
    refine g_bipush (v := nI 63) C dX2_firstPure_3 (by decide) ?_
    refine g_icmp_ge_n (tgt := 24) C dX2_firstPure_5 (by decide) (by omega) (by omega) (fun c5 => ?_) (fun c5 => ?_)
    · skip
      refine g_iconst (v := (-1)) C dX2_firstPure_24 (by decide) ?_
      refine g_iret C dX2_firstPure_25 (by decide) (by decide) ?_
      refine ⟨congrArg (fun b => some (Value.int b)) ?_, rfl⟩
      unfold fpI
      rw [fpN_none hPj, if_neg (by decide)]
    · skip
      exfalso; omega
  · intro j hlj huj hPj ihj
    try dsimp only at ihj ⊢
    refine g_iload_n C dX2_firstPure_2 rfl 0 rfl ?_
    refine g_bipush (v := nI 63) C dX2_firstPure_3 (by decide) ?_
    refine g_icmp_ge_n (tgt := 24) C dX2_firstPure_5 (by decide) (by omega) (by omega) (fun c5 => ?_) (fun c5 => ?_)
    · skip
      exfalso; omega
    · skip
      refine g_aload_n C dX2_firstPure_8 rfl 1 rfl ?_
      refine g_iload_n C dX2_firstPure_9 rfl 0 rfl ?_
      refine g_callV1 (wr := []) (w2 := [(a 0, .inr (3, [.ref (a 1), .ref (a 2), .ref (a 3), .ref (a 4), .ref (a 5), .ref (a 6), .ref (a 7), .int (nI th), .int (nI fz)])), (a 1, gI g 63 co), (a 2, gI g 63 ky), (a 3, gJ g 63 vl), (a 4, gI g 63 mk)]) C (c_X2_isPure l g a co ky vl mk th fz j (by omega)) (cwV 1 C.2.2.2.2.1 gX2_firstPure_X2_isPure rfl rfl rfl (by decide +kernel) ⟨Nat.le_of_ble_eq_true rfl, Nat.le_of_ble_eq_true rfl⟩) 0 rfl rfl rfl [0, 1, 2, 3, 4] [] rfl rfl rfl rfl rfl (by decide) rfl rfl (Nat.le_of_ble_eq_true rfl) dX2_firstPure_10 ⟨Nat.le_of_ble_eq_true rfl, Nat.le_of_ble_eq_true rfl⟩ rfl ?_
      refine g_if_eq_b (tgt := 18) C dX2_firstPure_13 (by decide) (fun c13 => ?_) (fun c13 => ?_)
      · skip
        refine g_iinc_n (d := 1) (L' := [(1, .int (nI (j + 1))), (0, .ref (a 0))]) C dX2_firstPure_18 0 rfl (by decide) (by decide) rfl ?_
        refine g_goto (tgt := 2) C dX2_firstPure_21 (by decide) ?_
        exact ihj (lt_s hPj c13)
      · skip
        refine g_iload_n C dX2_firstPure_16 rfl 0 rfl ?_
        refine g_iret C dX2_firstPure_17 (by decide) (by decide) ?_
        refine ⟨congrArg (fun b => some (Value.int b)) ?_, rfl⟩
        unfold fpI
        rw [fpN_some huj hPj c13, if_pos huj]
set_option maxHeartbeats 4000000 in
set_option maxRecDepth 100000 in
theorem c_X2_tell (l : Launch) (g : gE) (a : Nat → Nat) (fs : Nat → Int32) (fl : Nat → Nat) (fv : Nat → Int64) (th fz : Nat) (sd : Int32) (kk : Nat) (v : Int64) (hz : fz < 256) : Kt l g yX2_tell wsX2_tell 0 0 0 0 [.ref (a 0), .int sd, .int (nI kk), .long v] [(a 0, .inr (3, [.ref (a 1), .ref (a 2), .ref (a 3), .ref (a 4), .ref (a 5), .ref (a 6), .ref (a 7), .int (nI th), .int (nI fz)])), (a 5, gI g 256 fs), (a 6, gN g 256 fl), (a 7, gJ g 256 fv)] (kR none [(a 0, .inr (3, [.ref (a 1), .ref (a 2), .ref (a 3), .ref (a 4), .ref (a 5), .ref (a 6), .ref (a 7), .int (nI th), .int (nI (fz + 1))])), (a 5, gI g 256 (va_up fs fz sd)), (a 6, gN g 256 (va_up fl fz kk)), (a 7, gJ g 256 (va_up fv fz v))]) := by
  have hinX2 : ∀ w ∈ wsX20, w ∈ wsX2_tell := by
    intro w h
    unfold wsX2_tell
    simp only [List.mem_cons, List.mem_append]
    simp only [h, or_true, true_or]
  refine g_enter (cc := cX2_tell) (maxL := 5) (ret := none) (own := RX2) (L := [(0, .ref (a 0)), (1, .int sd), (2, .int (nI kk)), (3, .long v)]) (by decide) rfl rfl (Nat.le_of_ble_eq_true rfl) rfl ?_
  intro p e s m args below meth c hin0 C
  refine g_aload_n C dX2_tell_0 rfl 0 rfl ?_
  refine g_get C hinX2 0 rfl rfl 8 (by decide) (by decide +kernel) rfl rfl dX2_tell_1 ?_
  refine g_sipush (v := nI 256) C dX2_tell_4 (by decide) ?_
  refine g_icmp_ge_n (tgt := 50) C dX2_tell_7 (by decide) (by omega) (by omega) (fun c7 => ?_) (fun c7 => ?_)
  · skip
    exfalso; omega
  · skip
    refine g_aload_n C dX2_tell_10 rfl 0 rfl ?_
    refine g_get C hinX2 0 rfl rfl 4 (by decide) (by decide +kernel) rfl rfl dX2_tell_11 ?_
    refine g_aload_n C dX2_tell_14 rfl 0 rfl ?_
    refine g_get C hinX2 0 rfl rfl 8 (by decide) (by decide +kernel) rfl rfl dX2_tell_15 ?_
    refine g_iload_n C dX2_tell_18 rfl 1 rfl ?_
    refine g_iast (w2 := [(a 0, .inr (3, [.ref (a 1), .ref (a 2), .ref (a 3), .ref (a 4), .ref (a 5), .ref (a 6), .ref (a 7), .int (nI th), .int (nI fz)])), (a 5, gI g 256 (va_up fs fz sd)), (a 6, gN g 256 fl), (a 7, gJ g 256 fv)]) C 1 rfl (by omega) (by decide) rfl dX2_tell_19 ?_
    refine g_aload_n C dX2_tell_20 rfl 0 rfl ?_
    refine g_get C hinX2 0 rfl rfl 5 (by decide) (by decide +kernel) rfl rfl dX2_tell_21 ?_
    refine g_aload_n C dX2_tell_24 rfl 0 rfl ?_
    refine g_get C hinX2 0 rfl rfl 8 (by decide) (by decide +kernel) rfl rfl dX2_tell_25 ?_
    refine g_iload_n C dX2_tell_28 rfl 2 rfl ?_
    refine g_nast (w2 := [(a 0, .inr (3, [.ref (a 1), .ref (a 2), .ref (a 3), .ref (a 4), .ref (a 5), .ref (a 6), .ref (a 7), .int (nI th), .int (nI fz)])), (a 5, gI g 256 (va_up fs fz sd)), (a 6, gN g 256 (va_up fl fz kk)), (a 7, gJ g 256 fv)]) C 2 rfl (by omega) (by decide) rfl dX2_tell_29 ?_
    refine g_aload_n C dX2_tell_30 rfl 0 rfl ?_
    refine g_get C hinX2 0 rfl rfl 6 (by decide) (by decide +kernel) rfl rfl dX2_tell_31 ?_
    refine g_aload_n C dX2_tell_34 rfl 0 rfl ?_
    refine g_get C hinX2 0 rfl rfl 8 (by decide) (by decide +kernel) rfl rfl dX2_tell_35 ?_
    refine g_lload_n C dX2_tell_38 rfl 3 rfl ?_
    refine g_last (w2 := [(a 0, .inr (3, [.ref (a 1), .ref (a 2), .ref (a 3), .ref (a 4), .ref (a 5), .ref (a 6), .ref (a 7), .int (nI th), .int (nI fz)])), (a 5, gI g 256 (va_up fs fz sd)), (a 6, gN g 256 (va_up fl fz kk)), (a 7, gJ g 256 (va_up fv fz v))]) C 3 rfl (by omega) (by decide) rfl dX2_tell_39 ?_
    refine g_aload_n C dX2_tell_40 rfl 0 rfl ?_
    refine g_dup C dX2_tell_41 rfl ?_
    refine g_get C hinX2 0 rfl rfl 8 (by decide) (by decide +kernel) rfl rfl dX2_tell_42 ?_
    refine g_iconst (v := nI 1) C dX2_tell_45 (by decide) ?_
    refine g_iadd_n C dX2_tell_46 ?_
    refine g_put (ty := .int) (w2 := [(a 0, .inr (3, [.ref (a 1), .ref (a 2), .ref (a 3), .ref (a 4), .ref (a 5), .ref (a 6), .ref (a 7), .int (nI th), .int (nI (fz + 1))])), (a 5, gI g 256 (va_up fs fz sd)), (a 6, gN g 256 (va_up fl fz kk)), (a 7, gJ g 256 (va_up fv fz v))]) C hinX2 0 rfl rfl 8 (by decide) (by decide +kernel) rfl tyX2 tyX2_ok nmX2 rfl (by decide +kernel) rfl rfl (Nat.le_of_ble_eq_true rfl) rfl dX2_tell_47 ?_
    refine g_vret C dX2_tell_50 (by decide) (by decide) ?_
    exact ⟨rfl, rfl⟩
set_option maxHeartbeats 4000000 in
set_option maxRecDepth 100000 in
theorem c_X2_peel (l : Launch) (g : gE) (a : Nat → Nat) (co ky : Nat → Int32) (vl : Nat → Int64) (mk : Nat → Int32) (fs : Nat → Int32) (fl : Nat → Nat) (fv : Nat → Int64) (th fz : Nat) (h0 : 1 ≤ th) (h1 : th ≤ 21) (hz : fz = 0) : Kt l g yX2_peel wsX2_peel 6 135 0 0 [.ref (a 0)] [(a 0, .inr (3, [.ref (a 1), .ref (a 2), .ref (a 3), .ref (a 4), .ref (a 5), .ref (a 6), .ref (a 7), .int (nI th), .int (nI fz)])), (a 1, gI g 63 co), (a 2, gI g 63 ky), (a 3, gJ g 63 vl), (a 4, gI g 63 mk), (a 5, gI g 256 fs), (a 6, gN g 256 fl), (a 7, gJ g 256 fv)] (kR none [(a 0, .inr (3, [.ref (a 1), .ref (a 2), .ref (a 3), .ref (a 4), .ref (a 5), .ref (a 6), .ref (a 7), .int (nI th), .int (nI ((plL th ((co, ky, vl, mk), fs, fl, fv, fz) 256).2.2.2.2))])), (a 1, gI g 63 ((plL th ((co, ky, vl, mk), fs, fl, fv, fz) 256).1.1)), (a 2, gI g 63 ((plL th ((co, ky, vl, mk), fs, fl, fv, fz) 256).1.2.1)), (a 3, gJ g 63 ((plL th ((co, ky, vl, mk), fs, fl, fv, fz) 256).1.2.2.1)), (a 4, gI g 63 ((plL th ((co, ky, vl, mk), fs, fl, fv, fz) 256).1.2.2.2)), (a 5, gI g 256 ((plL th ((co, ky, vl, mk), fs, fl, fv, fz) 256).2.1)), (a 6, gN g 256 ((plL th ((co, ky, vl, mk), fs, fl, fv, fz) 256).2.2.1)), (a 7, gJ g 256 ((plL th ((co, ky, vl, mk), fs, fl, fv, fz) 256).2.2.2.1))]) := by
  have hinX2 : ∀ w ∈ wsX20, w ∈ wsX2_peel := by
    intro w h
    unfold wsX2_peel
    simp only [List.mem_cons, List.mem_append]
    simp only [h, or_true, true_or]
  refine g_enter (cc := cX2_peel) (maxL := 7) (ret := none) (own := RX2) (L := [(0, .ref (a 0))]) (by decide) rfl rfl (Nat.le_of_ble_eq_true rfl) rfl ?_
  intro p e s m args below meth c hin0 C
  refine g_iconst (v := nI 0) C dX2_peel_0 (by decide) ?_
  refine g_istore_n (L' := [(1, .int (nI 0)), (0, .ref (a 0))]) C dX2_peel_1 rfl (by decide) rfl ?_
  refine g_L (L2 := [(0, .ref (a 0)), (1, .int (nI 0))]) [1, 0] rfl ?_
  refine g_up 256 0 (fun j => (plL th ((co, ky, vl, mk), fs, fl, fv, fz) j).2.2.2.2 = j) (fun j => [(0, .ref (a 0)), (1, .int (nI j))]) (fun j => [(a 0, .inr (3, [.ref (a 1), .ref (a 2), .ref (a 3), .ref (a 4), .ref (a 5), .ref (a 6), .ref (a 7), .int (nI th), .int (nI ((plL th ((co, ky, vl, mk), fs, fl, fv, fz) j).2.2.2.2))])), (a 1, gI g 63 ((plL th ((co, ky, vl, mk), fs, fl, fv, fz) j).1.1)), (a 2, gI g 63 ((plL th ((co, ky, vl, mk), fs, fl, fv, fz) j).1.2.1)), (a 3, gJ g 63 ((plL th ((co, ky, vl, mk), fs, fl, fv, fz) j).1.2.2.1)), (a 4, gI g 63 ((plL th ((co, ky, vl, mk), fs, fl, fv, fz) j).1.2.2.2)), (a 5, gI g 256 ((plL th ((co, ky, vl, mk), fs, fl, fv, fz) j).2.1)), (a 6, gN g 256 ((plL th ((co, ky, vl, mk), fs, fl, fv, fz) j).2.2.1)), (a 7, gJ g 256 ((plL th ((co, ky, vl, mk), fs, fl, fv, fz) j).2.2.2.1))]) (by omega) (hz) ?_ ?_
  · intro hPj
    try dsimp only
    refine g_iload_n C dX2_peel_2 rfl 1 rfl ?_
    refine g_sipush (v := nI 256) C dX2_peel_3 (by decide) ?_
    refine g_icmp_ge_n (tgt := 77) C dX2_peel_6 (by decide) (by omega) (by omega) (fun c6 => ?_) (fun c6 => ?_)
    · skip
      refine g_vret C dX2_peel_77 (by decide) (by decide) ?_
      exact ⟨rfl, rfl⟩
    · skip
      exfalso; omega
  · intro j hlj huj hPj ihj
    try dsimp only at ihj ⊢
    refine g_iload_n C dX2_peel_2 rfl 1 rfl ?_
    refine g_sipush (v := nI 256) C dX2_peel_3 (by decide) ?_
    refine g_icmp_ge_n (tgt := 77) C dX2_peel_6 (by decide) (by omega) (by omega) (fun c6 => ?_) (fun c6 => ?_)
    · skip
      exfalso; omega
    · skip
      refine g_aload_n C dX2_peel_9 rfl 0 rfl ?_
      refine g_callV1 (wr := [(a 5, gI g 256 ((plL th ((co, ky, vl, mk), fs, fl, fv, fz) j).2.1)), (a 6, gN g 256 ((plL th ((co, ky, vl, mk), fs, fl, fv, fz) j).2.2.1)), (a 7, gJ g 256 ((plL th ((co, ky, vl, mk), fs, fl, fv, fz) j).2.2.2.1))]) (w2 := [(a 5, gI g 256 ((plL th ((co, ky, vl, mk), fs, fl, fv, fz) j).2.1)), (a 6, gN g 256 ((plL th ((co, ky, vl, mk), fs, fl, fv, fz) j).2.2.1)), (a 7, gJ g 256 ((plL th ((co, ky, vl, mk), fs, fl, fv, fz) j).2.2.2.1)), (a 0, .inr (3, [.ref (a 1), .ref (a 2), .ref (a 3), .ref (a 4), .ref (a 5), .ref (a 6), .ref (a 7), .int (nI th), .int (nI ((plL th ((co, ky, vl, mk), fs, fl, fv, fz) j).2.2.2.2))])), (a 1, gI g 63 ((plL th ((co, ky, vl, mk), fs, fl, fv, fz) j).1.1)), (a 2, gI g 63 ((plL th ((co, ky, vl, mk), fs, fl, fv, fz) j).1.2.1)), (a 3, gJ g 63 ((plL th ((co, ky, vl, mk), fs, fl, fv, fz) j).1.2.2.1)), (a 4, gI g 63 ((plL th ((co, ky, vl, mk), fs, fl, fv, fz) j).1.2.2.2))]) C (c_X2_firstPure l g a ((plL th ((co, ky, vl, mk), fs, fl, fv, fz) j).1.1) ((plL th ((co, ky, vl, mk), fs, fl, fv, fz) j).1.2.1) ((plL th ((co, ky, vl, mk), fs, fl, fv, fz) j).1.2.2.1) ((plL th ((co, ky, vl, mk), fs, fl, fv, fz) j).1.2.2.2) th ((plL th ((co, ky, vl, mk), fs, fl, fv, fz) j).2.2.2.2)) (cwV 0 C.2.2.2.2.1 gX2_peel_X2_firstPure rfl rfl rfl (by decide +kernel) ⟨Nat.le_of_ble_eq_true rfl, Nat.le_of_ble_eq_true rfl⟩) 0 rfl rfl rfl [0, 1, 2, 3, 4] [5, 6, 7] rfl rfl rfl rfl rfl (by decide) rfl rfl (Nat.le_of_ble_eq_true rfl) dX2_peel_10 ⟨Nat.le_of_ble_eq_true rfl, Nat.le_of_ble_eq_true rfl⟩ rfl ?_
      refine g_istore_n (L' := [(2, .int (fpI (pur (((plL th ((co, ky, vl, mk), fs, fl, fv, fz) j).1.1), ((plL th ((co, ky, vl, mk), fs, fl, fv, fz) j).1.2.1), ((plL th ((co, ky, vl, mk), fs, fl, fv, fz) j).1.2.2.1), ((plL th ((co, ky, vl, mk), fs, fl, fv, fz) j).1.2.2.2))) 63)), (0, .ref (a 0)), (1, .int (nI j))]) C dX2_peel_13 rfl (by decide) rfl ?_
      refine g_iload_n C dX2_peel_14 rfl 0 rfl ?_
      refine g_iconst (v := (-1)) C dX2_peel_15 (by decide) ?_
      refine g_icmp_ne (tgt := 20) C dX2_peel_16 (by decide) (fun c16 => ?_) (fun c16 => ?_)
      · skip
        obtain ⟨hq9, e9⟩ := fpI_ne c16
        obtain ⟨hp1, hp2, hp3, hp4⟩ := pur_p (pur_at hq9)
        obtain ⟨kk, hkk, ek⟩ := key_n hp2 hp3
        have ek2 : (plL th ((co, ky, vl, mk), fs, fl, fv, fz) j).1.2.1 (fpN (pur (plL th ((co, ky, vl, mk), fs, fl, fv, fz) j).1) 63) = nI ((plL th ((co, ky, vl, mk), fs, fl, fv, fz) j).1.2.1 (fpN (pur (plL th ((co, ky, vl, mk), fs, fl, fv, fz) j).1) 63)).toNatClampNeg := by rw [ek, nI_clamp (by omega)]
        have hkk2 : ((plL th ((co, ky, vl, mk), fs, fl, fv, fz) j).1.2.1 (fpN (pur (plL th ((co, ky, vl, mk), fs, fl, fv, fz) j).1) 63)).toNatClampNeg < 256 := by rw [ek, nI_clamp (by omega)]; exact hkk
        have est : plL th ((co, ky, vl, mk), fs, fl, fv, fz) (j + 1) = tkO th (fpN (pur (plL th ((co, ky, vl, mk), fs, fl, fv, fz) j).1) 63) (plL th ((co, ky, vl, mk), fs, fl, fv, fz) j) := if_pos hq9
        rw [est] at ihj
        rw [e9]
        refine g_aload_n C dX2_peel_20 rfl 1 rfl ?_
        refine g_get C hinX2 3 rfl rfl 0 (by decide) (by decide +kernel) rfl rfl dX2_peel_21 ?_
        refine g_iload_n C dX2_peel_24 rfl 0 rfl ?_
        refine g_iald C 4 rfl (by omega) (by decide) dX2_peel_25 ?_
        refine g_istore_n (L' := [(3, .int (((plL th ((co, ky, vl, mk), fs, fl, fv, fz) j).1.1) (fpN (pur (plL th ((co, ky, vl, mk), fs, fl, fv, fz) j).1) 63))), (2, .int (nI (fpN (pur (plL th ((co, ky, vl, mk), fs, fl, fv, fz) j).1) 63))), (0, .ref (a 0)), (1, .int (nI j))]) C dX2_peel_26 rfl (by decide) rfl ?_
        refine g_aload_n C dX2_peel_27 rfl 2 rfl ?_
        refine g_get C hinX2 3 rfl rfl 1 (by decide) (by decide +kernel) rfl rfl dX2_peel_28 ?_
        refine g_iload_n C dX2_peel_31 rfl 1 rfl ?_
        refine g_iald C 5 rfl (by omega) (by decide) dX2_peel_32 ?_
        refine g_st (st2 := [.int (nI (((plL th ((co, ky, vl, mk), fs, fl, fv, fz) j).1.2.1 (fpN (pur (plL th ((co, ky, vl, mk), fs, fl, fv, fz) j).1) 63)).toNatClampNeg))]) (by rw [← ek2]) ?_
        refine g_istore (L' := [(4, .int (nI (((plL th ((co, ky, vl, mk), fs, fl, fv, fz) j).1.2.1 (fpN (pur (plL th ((co, ky, vl, mk), fs, fl, fv, fz) j).1) 63)).toNatClampNeg))), (3, .int (((plL th ((co, ky, vl, mk), fs, fl, fv, fz) j).1.1) (fpN (pur (plL th ((co, ky, vl, mk), fs, fl, fv, fz) j).1) 63))), (2, .int (nI (fpN (pur (plL th ((co, ky, vl, mk), fs, fl, fv, fz) j).1) 63))), (0, .ref (a 0)), (1, .int (nI j))]) C dX2_peel_33 (by decide) rfl ?_
        refine g_aload_n C dX2_peel_35 rfl 3 rfl ?_
        refine g_get C hinX2 3 rfl rfl 2 (by decide) (by decide +kernel) rfl rfl dX2_peel_36 ?_
        refine g_iload_n C dX2_peel_39 rfl 2 rfl ?_
        refine g_lald C 6 rfl (by omega) (by decide) dX2_peel_40 ?_
        refine g_lstore (L' := [(5, .long (((plL th ((co, ky, vl, mk), fs, fl, fv, fz) j).1.2.2.1) (fpN (pur (plL th ((co, ky, vl, mk), fs, fl, fv, fz) j).1) 63))), (4, .int (nI (((plL th ((co, ky, vl, mk), fs, fl, fv, fz) j).1.2.1 (fpN (pur (plL th ((co, ky, vl, mk), fs, fl, fv, fz) j).1) 63)).toNatClampNeg))), (3, .int (((plL th ((co, ky, vl, mk), fs, fl, fv, fz) j).1.1) (fpN (pur (plL th ((co, ky, vl, mk), fs, fl, fv, fz) j).1) 63))), (2, .int (nI (fpN (pur (plL th ((co, ky, vl, mk), fs, fl, fv, fz) j).1) 63))), (0, .ref (a 0)), (1, .int (nI j))]) C dX2_peel_41 (by decide) rfl ?_
        refine g_aload_n C dX2_peel_43 rfl 4 rfl ?_
        refine g_iload_n C dX2_peel_44 rfl 2 rfl ?_
        refine g_iconst (v := nI 1) C dX2_peel_45 (by decide) ?_
        refine g_icmp_ne (tgt := 53) C dX2_peel_46 (by decide) (fun c46 => ?_) (fun c46 => ?_)
        · skip
          rw [tkO_2 c46] at ihj
          refine g_iconst (v := nI 1) C dX2_peel_53 (by decide) ?_
          refine g_iload C dX2_peel_54 1 rfl ?_
          refine g_lload C dX2_peel_56 0 rfl ?_
          refine g_callV0 (wr := [(a 1, gI g 63 ((plL th ((co, ky, vl, mk), fs, fl, fv, fz) j).1.1)), (a 2, gI g 63 ((plL th ((co, ky, vl, mk), fs, fl, fv, fz) j).1.2.1)), (a 3, gJ g 63 ((plL th ((co, ky, vl, mk), fs, fl, fv, fz) j).1.2.2.1)), (a 4, gI g 63 ((plL th ((co, ky, vl, mk), fs, fl, fv, fz) j).1.2.2.2))]) (w2 := [(a 1, gI g 63 ((plL th ((co, ky, vl, mk), fs, fl, fv, fz) j).1.1)), (a 2, gI g 63 ((plL th ((co, ky, vl, mk), fs, fl, fv, fz) j).1.2.1)), (a 3, gJ g 63 ((plL th ((co, ky, vl, mk), fs, fl, fv, fz) j).1.2.2.1)), (a 4, gI g 63 ((plL th ((co, ky, vl, mk), fs, fl, fv, fz) j).1.2.2.2)), (a 0, .inr (3, [.ref (a 1), .ref (a 2), .ref (a 3), .ref (a 4), .ref (a 5), .ref (a 6), .ref (a 7), .int (nI th), .int (nI (((plL th ((co, ky, vl, mk), fs, fl, fv, fz) j).2.2.2.2) + 1))])), (a 5, gI g 256 (va_up ((plL th ((co, ky, vl, mk), fs, fl, fv, fz) j).2.1) ((plL th ((co, ky, vl, mk), fs, fl, fv, fz) j).2.2.2.2) (nI 1))), (a 6, gN g 256 (va_up ((plL th ((co, ky, vl, mk), fs, fl, fv, fz) j).2.2.1) ((plL th ((co, ky, vl, mk), fs, fl, fv, fz) j).2.2.2.2) (((plL th ((co, ky, vl, mk), fs, fl, fv, fz) j).1.2.1 (fpN (pur (plL th ((co, ky, vl, mk), fs, fl, fv, fz) j).1) 63)).toNatClampNeg))), (a 7, gJ g 256 (va_up ((plL th ((co, ky, vl, mk), fs, fl, fv, fz) j).2.2.2.1) ((plL th ((co, ky, vl, mk), fs, fl, fv, fz) j).2.2.2.2) (((plL th ((co, ky, vl, mk), fs, fl, fv, fz) j).1.2.2.1) (fpN (pur (plL th ((co, ky, vl, mk), fs, fl, fv, fz) j).1) 63))))]) C (c_X2_tell l g a ((plL th ((co, ky, vl, mk), fs, fl, fv, fz) j).2.1) ((plL th ((co, ky, vl, mk), fs, fl, fv, fz) j).2.2.1) ((plL th ((co, ky, vl, mk), fs, fl, fv, fz) j).2.2.2.1) th ((plL th ((co, ky, vl, mk), fs, fl, fv, fz) j).2.2.2.2) (nI 1) (((plL th ((co, ky, vl, mk), fs, fl, fv, fz) j).1.2.1 (fpN (pur (plL th ((co, ky, vl, mk), fs, fl, fv, fz) j).1) 63)).toNatClampNeg) (((plL th ((co, ky, vl, mk), fs, fl, fv, fz) j).1.2.2.1) (fpN (pur (plL th ((co, ky, vl, mk), fs, fl, fv, fz) j).1) 63)) (by rw [hPj]; exact huj)) (cwV 3 C.2.2.2.2.1 gX2_peel_X2_tell rfl rfl rfl (by decide +kernel) ⟨Nat.le_of_ble_eq_true rfl, Nat.le_of_ble_eq_true rfl⟩) 3 rfl rfl rfl [3, 0, 1, 2] [4, 5, 6, 7] rfl rfl rfl rfl rfl (by decide) rfl rfl (Nat.le_of_ble_eq_true rfl) dX2_peel_58 ⟨Nat.le_of_ble_eq_true rfl, Nat.le_of_ble_eq_true rfl⟩ rfl ?_
          refine g_aload_n C dX2_peel_61 rfl 4 rfl ?_
          refine g_iload C dX2_peel_62 1 rfl ?_
          refine g_lload C dX2_peel_64 0 rfl ?_
          refine g_iload_n C dX2_peel_66 rfl 2 rfl ?_
          refine g_ineg C dX2_peel_67 ?_
          refine g_callV0 (wr := [(a 5, gI g 256 (va_up ((plL th ((co, ky, vl, mk), fs, fl, fv, fz) j).2.1) ((plL th ((co, ky, vl, mk), fs, fl, fv, fz) j).2.2.2.2) (nI 1))), (a 6, gN g 256 (va_up ((plL th ((co, ky, vl, mk), fs, fl, fv, fz) j).2.2.1) ((plL th ((co, ky, vl, mk), fs, fl, fv, fz) j).2.2.2.2) (((plL th ((co, ky, vl, mk), fs, fl, fv, fz) j).1.2.1 (fpN (pur (plL th ((co, ky, vl, mk), fs, fl, fv, fz) j).1) 63)).toNatClampNeg))), (a 7, gJ g 256 (va_up ((plL th ((co, ky, vl, mk), fs, fl, fv, fz) j).2.2.2.1) ((plL th ((co, ky, vl, mk), fs, fl, fv, fz) j).2.2.2.2) (((plL th ((co, ky, vl, mk), fs, fl, fv, fz) j).1.2.2.1) (fpN (pur (plL th ((co, ky, vl, mk), fs, fl, fv, fz) j).1) 63))))]) (w2 := [(a 5, gI g 256 (va_up ((plL th ((co, ky, vl, mk), fs, fl, fv, fz) j).2.1) ((plL th ((co, ky, vl, mk), fs, fl, fv, fz) j).2.2.2.2) (nI 1))), (a 6, gN g 256 (va_up ((plL th ((co, ky, vl, mk), fs, fl, fv, fz) j).2.2.1) ((plL th ((co, ky, vl, mk), fs, fl, fv, fz) j).2.2.2.2) (((plL th ((co, ky, vl, mk), fs, fl, fv, fz) j).1.2.1 (fpN (pur (plL th ((co, ky, vl, mk), fs, fl, fv, fz) j).1) 63)).toNatClampNeg))), (a 7, gJ g 256 (va_up ((plL th ((co, ky, vl, mk), fs, fl, fv, fz) j).2.2.2.1) ((plL th ((co, ky, vl, mk), fs, fl, fv, fz) j).2.2.2.2) (((plL th ((co, ky, vl, mk), fs, fl, fv, fz) j).1.2.2.1) (fpN (pur (plL th ((co, ky, vl, mk), fs, fl, fv, fz) j).1) 63)))), (a 0, .inr (3, [.ref (a 1), .ref (a 2), .ref (a 3), .ref (a 4), .ref (a 5), .ref (a 6), .ref (a 7), .int (nI th), .int (nI (((plL th ((co, ky, vl, mk), fs, fl, fv, fz) j).2.2.2.2) + 1))])), (a 1, gI g 63 ((tnL th (((plL th ((co, ky, vl, mk), fs, fl, fv, fz) j).1.2.1 (fpN (pur (plL th ((co, ky, vl, mk), fs, fl, fv, fz) j).1) 63)).toNatClampNeg) (((plL th ((co, ky, vl, mk), fs, fl, fv, fz) j).1.2.2.1) (fpN (pur (plL th ((co, ky, vl, mk), fs, fl, fv, fz) j).1) 63)) (-(((plL th ((co, ky, vl, mk), fs, fl, fv, fz) j).1.1) (fpN (pur (plL th ((co, ky, vl, mk), fs, fl, fv, fz) j).1) 63))) (((plL th ((co, ky, vl, mk), fs, fl, fv, fz) j).1.1), ((plL th ((co, ky, vl, mk), fs, fl, fv, fz) j).1.2.1), ((plL th ((co, ky, vl, mk), fs, fl, fv, fz) j).1.2.2.1), ((plL th ((co, ky, vl, mk), fs, fl, fv, fz) j).1.2.2.2))).1)), (a 2, gI g 63 ((tnL th (((plL th ((co, ky, vl, mk), fs, fl, fv, fz) j).1.2.1 (fpN (pur (plL th ((co, ky, vl, mk), fs, fl, fv, fz) j).1) 63)).toNatClampNeg) (((plL th ((co, ky, vl, mk), fs, fl, fv, fz) j).1.2.2.1) (fpN (pur (plL th ((co, ky, vl, mk), fs, fl, fv, fz) j).1) 63)) (-(((plL th ((co, ky, vl, mk), fs, fl, fv, fz) j).1.1) (fpN (pur (plL th ((co, ky, vl, mk), fs, fl, fv, fz) j).1) 63))) (((plL th ((co, ky, vl, mk), fs, fl, fv, fz) j).1.1), ((plL th ((co, ky, vl, mk), fs, fl, fv, fz) j).1.2.1), ((plL th ((co, ky, vl, mk), fs, fl, fv, fz) j).1.2.2.1), ((plL th ((co, ky, vl, mk), fs, fl, fv, fz) j).1.2.2.2))).2.1)), (a 3, gJ g 63 ((tnL th (((plL th ((co, ky, vl, mk), fs, fl, fv, fz) j).1.2.1 (fpN (pur (plL th ((co, ky, vl, mk), fs, fl, fv, fz) j).1) 63)).toNatClampNeg) (((plL th ((co, ky, vl, mk), fs, fl, fv, fz) j).1.2.2.1) (fpN (pur (plL th ((co, ky, vl, mk), fs, fl, fv, fz) j).1) 63)) (-(((plL th ((co, ky, vl, mk), fs, fl, fv, fz) j).1.1) (fpN (pur (plL th ((co, ky, vl, mk), fs, fl, fv, fz) j).1) 63))) (((plL th ((co, ky, vl, mk), fs, fl, fv, fz) j).1.1), ((plL th ((co, ky, vl, mk), fs, fl, fv, fz) j).1.2.1), ((plL th ((co, ky, vl, mk), fs, fl, fv, fz) j).1.2.2.1), ((plL th ((co, ky, vl, mk), fs, fl, fv, fz) j).1.2.2.2))).2.2.1)), (a 4, gI g 63 ((tnL th (((plL th ((co, ky, vl, mk), fs, fl, fv, fz) j).1.2.1 (fpN (pur (plL th ((co, ky, vl, mk), fs, fl, fv, fz) j).1) 63)).toNatClampNeg) (((plL th ((co, ky, vl, mk), fs, fl, fv, fz) j).1.2.2.1) (fpN (pur (plL th ((co, ky, vl, mk), fs, fl, fv, fz) j).1) 63)) (-(((plL th ((co, ky, vl, mk), fs, fl, fv, fz) j).1.1) (fpN (pur (plL th ((co, ky, vl, mk), fs, fl, fv, fz) j).1) 63))) (((plL th ((co, ky, vl, mk), fs, fl, fv, fz) j).1.1), ((plL th ((co, ky, vl, mk), fs, fl, fv, fz) j).1.2.1), ((plL th ((co, ky, vl, mk), fs, fl, fv, fz) j).1.2.2.1), ((plL th ((co, ky, vl, mk), fs, fl, fv, fz) j).1.2.2.2))).2.2.2))]) C (c_X2_turn l g a ((plL th ((co, ky, vl, mk), fs, fl, fv, fz) j).1.1) ((plL th ((co, ky, vl, mk), fs, fl, fv, fz) j).1.2.1) ((plL th ((co, ky, vl, mk), fs, fl, fv, fz) j).1.2.2.1) ((plL th ((co, ky, vl, mk), fs, fl, fv, fz) j).1.2.2.2) th (((plL th ((co, ky, vl, mk), fs, fl, fv, fz) j).2.2.2.2) + 1) (((plL th ((co, ky, vl, mk), fs, fl, fv, fz) j).1.2.1 (fpN (pur (plL th ((co, ky, vl, mk), fs, fl, fv, fz) j).1) 63)).toNatClampNeg) (((plL th ((co, ky, vl, mk), fs, fl, fv, fz) j).1.2.2.1) (fpN (pur (plL th ((co, ky, vl, mk), fs, fl, fv, fz) j).1) 63)) (-(((plL th ((co, ky, vl, mk), fs, fl, fv, fz) j).1.1) (fpN (pur (plL th ((co, ky, vl, mk), fs, fl, fv, fz) j).1) 63))) (by omega) (by omega) (Nat.lt_trans hkk2 (by decide))) (cwV 3 C.2.2.2.2.1 gX2_peel_X2_turn rfl rfl rfl (by decide +kernel) ⟨Nat.le_of_ble_eq_true rfl, Nat.le_of_ble_eq_true rfl⟩) 4 rfl rfl rfl [4, 0, 1, 2, 3] [5, 6, 7] rfl rfl rfl rfl rfl (by decide) rfl rfl (Nat.le_of_ble_eq_true rfl) dX2_peel_68 ⟨Nat.le_of_ble_eq_true rfl, Nat.le_of_ble_eq_true rfl⟩ rfl ?_
          refine g_iinc_n (d := 1) (L' := [(1, .int (nI (j + 1))), (5, .long (((plL th ((co, ky, vl, mk), fs, fl, fv, fz) j).1.2.2.1) (fpN (pur (plL th ((co, ky, vl, mk), fs, fl, fv, fz) j).1) 63))), (4, .int (nI (((plL th ((co, ky, vl, mk), fs, fl, fv, fz) j).1.2.1 (fpN (pur (plL th ((co, ky, vl, mk), fs, fl, fv, fz) j).1) 63)).toNatClampNeg))), (3, .int (((plL th ((co, ky, vl, mk), fs, fl, fv, fz) j).1.1) (fpN (pur (plL th ((co, ky, vl, mk), fs, fl, fv, fz) j).1) 63))), (2, .int (nI (fpN (pur (plL th ((co, ky, vl, mk), fs, fl, fv, fz) j).1) 63))), (0, .ref (a 0))]) C dX2_peel_71 5 rfl (by decide) (by decide) rfl ?_
          refine g_goto (tgt := 2) C dX2_peel_74 (by decide) ?_
          refine g_L (L2 := [(0, .ref (a 0)), (1, .int (nI (j + 1)))]) [5, 0] rfl ?_
          refine g_perm (w2 := [(a 0, .inr (3, [.ref (a 1), .ref (a 2), .ref (a 3), .ref (a 4), .ref (a 5), .ref (a 6), .ref (a 7), .int (nI th), .int (nI (((plL th ((co, ky, vl, mk), fs, fl, fv, fz) j).2.2.2.2) + 1))])), (a 1, gI g 63 ((tnL th (((plL th ((co, ky, vl, mk), fs, fl, fv, fz) j).1.2.1 (fpN (pur (plL th ((co, ky, vl, mk), fs, fl, fv, fz) j).1) 63)).toNatClampNeg) (((plL th ((co, ky, vl, mk), fs, fl, fv, fz) j).1.2.2.1) (fpN (pur (plL th ((co, ky, vl, mk), fs, fl, fv, fz) j).1) 63)) (-(((plL th ((co, ky, vl, mk), fs, fl, fv, fz) j).1.1) (fpN (pur (plL th ((co, ky, vl, mk), fs, fl, fv, fz) j).1) 63))) (((plL th ((co, ky, vl, mk), fs, fl, fv, fz) j).1.1), ((plL th ((co, ky, vl, mk), fs, fl, fv, fz) j).1.2.1), ((plL th ((co, ky, vl, mk), fs, fl, fv, fz) j).1.2.2.1), ((plL th ((co, ky, vl, mk), fs, fl, fv, fz) j).1.2.2.2))).1)), (a 2, gI g 63 ((tnL th (((plL th ((co, ky, vl, mk), fs, fl, fv, fz) j).1.2.1 (fpN (pur (plL th ((co, ky, vl, mk), fs, fl, fv, fz) j).1) 63)).toNatClampNeg) (((plL th ((co, ky, vl, mk), fs, fl, fv, fz) j).1.2.2.1) (fpN (pur (plL th ((co, ky, vl, mk), fs, fl, fv, fz) j).1) 63)) (-(((plL th ((co, ky, vl, mk), fs, fl, fv, fz) j).1.1) (fpN (pur (plL th ((co, ky, vl, mk), fs, fl, fv, fz) j).1) 63))) (((plL th ((co, ky, vl, mk), fs, fl, fv, fz) j).1.1), ((plL th ((co, ky, vl, mk), fs, fl, fv, fz) j).1.2.1), ((plL th ((co, ky, vl, mk), fs, fl, fv, fz) j).1.2.2.1), ((plL th ((co, ky, vl, mk), fs, fl, fv, fz) j).1.2.2.2))).2.1)), (a 3, gJ g 63 ((tnL th (((plL th ((co, ky, vl, mk), fs, fl, fv, fz) j).1.2.1 (fpN (pur (plL th ((co, ky, vl, mk), fs, fl, fv, fz) j).1) 63)).toNatClampNeg) (((plL th ((co, ky, vl, mk), fs, fl, fv, fz) j).1.2.2.1) (fpN (pur (plL th ((co, ky, vl, mk), fs, fl, fv, fz) j).1) 63)) (-(((plL th ((co, ky, vl, mk), fs, fl, fv, fz) j).1.1) (fpN (pur (plL th ((co, ky, vl, mk), fs, fl, fv, fz) j).1) 63))) (((plL th ((co, ky, vl, mk), fs, fl, fv, fz) j).1.1), ((plL th ((co, ky, vl, mk), fs, fl, fv, fz) j).1.2.1), ((plL th ((co, ky, vl, mk), fs, fl, fv, fz) j).1.2.2.1), ((plL th ((co, ky, vl, mk), fs, fl, fv, fz) j).1.2.2.2))).2.2.1)), (a 4, gI g 63 ((tnL th (((plL th ((co, ky, vl, mk), fs, fl, fv, fz) j).1.2.1 (fpN (pur (plL th ((co, ky, vl, mk), fs, fl, fv, fz) j).1) 63)).toNatClampNeg) (((plL th ((co, ky, vl, mk), fs, fl, fv, fz) j).1.2.2.1) (fpN (pur (plL th ((co, ky, vl, mk), fs, fl, fv, fz) j).1) 63)) (-(((plL th ((co, ky, vl, mk), fs, fl, fv, fz) j).1.1) (fpN (pur (plL th ((co, ky, vl, mk), fs, fl, fv, fz) j).1) 63))) (((plL th ((co, ky, vl, mk), fs, fl, fv, fz) j).1.1), ((plL th ((co, ky, vl, mk), fs, fl, fv, fz) j).1.2.1), ((plL th ((co, ky, vl, mk), fs, fl, fv, fz) j).1.2.2.1), ((plL th ((co, ky, vl, mk), fs, fl, fv, fz) j).1.2.2.2))).2.2.2)), (a 5, gI g 256 (va_up ((plL th ((co, ky, vl, mk), fs, fl, fv, fz) j).2.1) ((plL th ((co, ky, vl, mk), fs, fl, fv, fz) j).2.2.2.2) (nI 1))), (a 6, gN g 256 (va_up ((plL th ((co, ky, vl, mk), fs, fl, fv, fz) j).2.2.1) ((plL th ((co, ky, vl, mk), fs, fl, fv, fz) j).2.2.2.2) (((plL th ((co, ky, vl, mk), fs, fl, fv, fz) j).1.2.1 (fpN (pur (plL th ((co, ky, vl, mk), fs, fl, fv, fz) j).1) 63)).toNatClampNeg))), (a 7, gJ g 256 (va_up ((plL th ((co, ky, vl, mk), fs, fl, fv, fz) j).2.2.2.1) ((plL th ((co, ky, vl, mk), fs, fl, fv, fz) j).2.2.2.2) (((plL th ((co, ky, vl, mk), fs, fl, fv, fz) j).1.2.2.1) (fpN (pur (plL th ((co, ky, vl, mk), fs, fl, fv, fz) j).1) 63))))]) [3, 4, 5, 6, 7, 0, 1, 2] rfl rfl rfl ?_
          exact ihj (by show _ + 1 = _; rw [hPj])
        · skip
          rw [tkO_1 c46] at ihj
          refine g_iconst (v := nI 0) C dX2_peel_49 (by decide) ?_
          refine g_goto (tgt := 54) C dX2_peel_50 (by decide) ?_
          refine g_iload C dX2_peel_54 1 rfl ?_
          refine g_lload C dX2_peel_56 0 rfl ?_
          refine g_callV0 (wr := [(a 1, gI g 63 ((plL th ((co, ky, vl, mk), fs, fl, fv, fz) j).1.1)), (a 2, gI g 63 ((plL th ((co, ky, vl, mk), fs, fl, fv, fz) j).1.2.1)), (a 3, gJ g 63 ((plL th ((co, ky, vl, mk), fs, fl, fv, fz) j).1.2.2.1)), (a 4, gI g 63 ((plL th ((co, ky, vl, mk), fs, fl, fv, fz) j).1.2.2.2))]) (w2 := [(a 1, gI g 63 ((plL th ((co, ky, vl, mk), fs, fl, fv, fz) j).1.1)), (a 2, gI g 63 ((plL th ((co, ky, vl, mk), fs, fl, fv, fz) j).1.2.1)), (a 3, gJ g 63 ((plL th ((co, ky, vl, mk), fs, fl, fv, fz) j).1.2.2.1)), (a 4, gI g 63 ((plL th ((co, ky, vl, mk), fs, fl, fv, fz) j).1.2.2.2)), (a 0, .inr (3, [.ref (a 1), .ref (a 2), .ref (a 3), .ref (a 4), .ref (a 5), .ref (a 6), .ref (a 7), .int (nI th), .int (nI (((plL th ((co, ky, vl, mk), fs, fl, fv, fz) j).2.2.2.2) + 1))])), (a 5, gI g 256 (va_up ((plL th ((co, ky, vl, mk), fs, fl, fv, fz) j).2.1) ((plL th ((co, ky, vl, mk), fs, fl, fv, fz) j).2.2.2.2) (nI 0))), (a 6, gN g 256 (va_up ((plL th ((co, ky, vl, mk), fs, fl, fv, fz) j).2.2.1) ((plL th ((co, ky, vl, mk), fs, fl, fv, fz) j).2.2.2.2) (((plL th ((co, ky, vl, mk), fs, fl, fv, fz) j).1.2.1 (fpN (pur (plL th ((co, ky, vl, mk), fs, fl, fv, fz) j).1) 63)).toNatClampNeg))), (a 7, gJ g 256 (va_up ((plL th ((co, ky, vl, mk), fs, fl, fv, fz) j).2.2.2.1) ((plL th ((co, ky, vl, mk), fs, fl, fv, fz) j).2.2.2.2) (((plL th ((co, ky, vl, mk), fs, fl, fv, fz) j).1.2.2.1) (fpN (pur (plL th ((co, ky, vl, mk), fs, fl, fv, fz) j).1) 63))))]) C (c_X2_tell l g a ((plL th ((co, ky, vl, mk), fs, fl, fv, fz) j).2.1) ((plL th ((co, ky, vl, mk), fs, fl, fv, fz) j).2.2.1) ((plL th ((co, ky, vl, mk), fs, fl, fv, fz) j).2.2.2.1) th ((plL th ((co, ky, vl, mk), fs, fl, fv, fz) j).2.2.2.2) (nI 0) (((plL th ((co, ky, vl, mk), fs, fl, fv, fz) j).1.2.1 (fpN (pur (plL th ((co, ky, vl, mk), fs, fl, fv, fz) j).1) 63)).toNatClampNeg) (((plL th ((co, ky, vl, mk), fs, fl, fv, fz) j).1.2.2.1) (fpN (pur (plL th ((co, ky, vl, mk), fs, fl, fv, fz) j).1) 63)) (by rw [hPj]; exact huj)) (cwV 3 C.2.2.2.2.1 gX2_peel_X2_tell rfl rfl rfl (by decide +kernel) ⟨Nat.le_of_ble_eq_true rfl, Nat.le_of_ble_eq_true rfl⟩) 3 rfl rfl rfl [3, 0, 1, 2] [4, 5, 6, 7] rfl rfl rfl rfl rfl (by decide) rfl rfl (Nat.le_of_ble_eq_true rfl) dX2_peel_58 ⟨Nat.le_of_ble_eq_true rfl, Nat.le_of_ble_eq_true rfl⟩ rfl ?_
          refine g_aload_n C dX2_peel_61 rfl 4 rfl ?_
          refine g_iload C dX2_peel_62 1 rfl ?_
          refine g_lload C dX2_peel_64 0 rfl ?_
          refine g_iload_n C dX2_peel_66 rfl 2 rfl ?_
          refine g_ineg C dX2_peel_67 ?_
          refine g_callV0 (wr := [(a 5, gI g 256 (va_up ((plL th ((co, ky, vl, mk), fs, fl, fv, fz) j).2.1) ((plL th ((co, ky, vl, mk), fs, fl, fv, fz) j).2.2.2.2) (nI 0))), (a 6, gN g 256 (va_up ((plL th ((co, ky, vl, mk), fs, fl, fv, fz) j).2.2.1) ((plL th ((co, ky, vl, mk), fs, fl, fv, fz) j).2.2.2.2) (((plL th ((co, ky, vl, mk), fs, fl, fv, fz) j).1.2.1 (fpN (pur (plL th ((co, ky, vl, mk), fs, fl, fv, fz) j).1) 63)).toNatClampNeg))), (a 7, gJ g 256 (va_up ((plL th ((co, ky, vl, mk), fs, fl, fv, fz) j).2.2.2.1) ((plL th ((co, ky, vl, mk), fs, fl, fv, fz) j).2.2.2.2) (((plL th ((co, ky, vl, mk), fs, fl, fv, fz) j).1.2.2.1) (fpN (pur (plL th ((co, ky, vl, mk), fs, fl, fv, fz) j).1) 63))))]) (w2 := [(a 5, gI g 256 (va_up ((plL th ((co, ky, vl, mk), fs, fl, fv, fz) j).2.1) ((plL th ((co, ky, vl, mk), fs, fl, fv, fz) j).2.2.2.2) (nI 0))), (a 6, gN g 256 (va_up ((plL th ((co, ky, vl, mk), fs, fl, fv, fz) j).2.2.1) ((plL th ((co, ky, vl, mk), fs, fl, fv, fz) j).2.2.2.2) (((plL th ((co, ky, vl, mk), fs, fl, fv, fz) j).1.2.1 (fpN (pur (plL th ((co, ky, vl, mk), fs, fl, fv, fz) j).1) 63)).toNatClampNeg))), (a 7, gJ g 256 (va_up ((plL th ((co, ky, vl, mk), fs, fl, fv, fz) j).2.2.2.1) ((plL th ((co, ky, vl, mk), fs, fl, fv, fz) j).2.2.2.2) (((plL th ((co, ky, vl, mk), fs, fl, fv, fz) j).1.2.2.1) (fpN (pur (plL th ((co, ky, vl, mk), fs, fl, fv, fz) j).1) 63)))), (a 0, .inr (3, [.ref (a 1), .ref (a 2), .ref (a 3), .ref (a 4), .ref (a 5), .ref (a 6), .ref (a 7), .int (nI th), .int (nI (((plL th ((co, ky, vl, mk), fs, fl, fv, fz) j).2.2.2.2) + 1))])), (a 1, gI g 63 ((tnL th (((plL th ((co, ky, vl, mk), fs, fl, fv, fz) j).1.2.1 (fpN (pur (plL th ((co, ky, vl, mk), fs, fl, fv, fz) j).1) 63)).toNatClampNeg) (((plL th ((co, ky, vl, mk), fs, fl, fv, fz) j).1.2.2.1) (fpN (pur (plL th ((co, ky, vl, mk), fs, fl, fv, fz) j).1) 63)) (-(((plL th ((co, ky, vl, mk), fs, fl, fv, fz) j).1.1) (fpN (pur (plL th ((co, ky, vl, mk), fs, fl, fv, fz) j).1) 63))) (((plL th ((co, ky, vl, mk), fs, fl, fv, fz) j).1.1), ((plL th ((co, ky, vl, mk), fs, fl, fv, fz) j).1.2.1), ((plL th ((co, ky, vl, mk), fs, fl, fv, fz) j).1.2.2.1), ((plL th ((co, ky, vl, mk), fs, fl, fv, fz) j).1.2.2.2))).1)), (a 2, gI g 63 ((tnL th (((plL th ((co, ky, vl, mk), fs, fl, fv, fz) j).1.2.1 (fpN (pur (plL th ((co, ky, vl, mk), fs, fl, fv, fz) j).1) 63)).toNatClampNeg) (((plL th ((co, ky, vl, mk), fs, fl, fv, fz) j).1.2.2.1) (fpN (pur (plL th ((co, ky, vl, mk), fs, fl, fv, fz) j).1) 63)) (-(((plL th ((co, ky, vl, mk), fs, fl, fv, fz) j).1.1) (fpN (pur (plL th ((co, ky, vl, mk), fs, fl, fv, fz) j).1) 63))) (((plL th ((co, ky, vl, mk), fs, fl, fv, fz) j).1.1), ((plL th ((co, ky, vl, mk), fs, fl, fv, fz) j).1.2.1), ((plL th ((co, ky, vl, mk), fs, fl, fv, fz) j).1.2.2.1), ((plL th ((co, ky, vl, mk), fs, fl, fv, fz) j).1.2.2.2))).2.1)), (a 3, gJ g 63 ((tnL th (((plL th ((co, ky, vl, mk), fs, fl, fv, fz) j).1.2.1 (fpN (pur (plL th ((co, ky, vl, mk), fs, fl, fv, fz) j).1) 63)).toNatClampNeg) (((plL th ((co, ky, vl, mk), fs, fl, fv, fz) j).1.2.2.1) (fpN (pur (plL th ((co, ky, vl, mk), fs, fl, fv, fz) j).1) 63)) (-(((plL th ((co, ky, vl, mk), fs, fl, fv, fz) j).1.1) (fpN (pur (plL th ((co, ky, vl, mk), fs, fl, fv, fz) j).1) 63))) (((plL th ((co, ky, vl, mk), fs, fl, fv, fz) j).1.1), ((plL th ((co, ky, vl, mk), fs, fl, fv, fz) j).1.2.1), ((plL th ((co, ky, vl, mk), fs, fl, fv, fz) j).1.2.2.1), ((plL th ((co, ky, vl, mk), fs, fl, fv, fz) j).1.2.2.2))).2.2.1)), (a 4, gI g 63 ((tnL th (((plL th ((co, ky, vl, mk), fs, fl, fv, fz) j).1.2.1 (fpN (pur (plL th ((co, ky, vl, mk), fs, fl, fv, fz) j).1) 63)).toNatClampNeg) (((plL th ((co, ky, vl, mk), fs, fl, fv, fz) j).1.2.2.1) (fpN (pur (plL th ((co, ky, vl, mk), fs, fl, fv, fz) j).1) 63)) (-(((plL th ((co, ky, vl, mk), fs, fl, fv, fz) j).1.1) (fpN (pur (plL th ((co, ky, vl, mk), fs, fl, fv, fz) j).1) 63))) (((plL th ((co, ky, vl, mk), fs, fl, fv, fz) j).1.1), ((plL th ((co, ky, vl, mk), fs, fl, fv, fz) j).1.2.1), ((plL th ((co, ky, vl, mk), fs, fl, fv, fz) j).1.2.2.1), ((plL th ((co, ky, vl, mk), fs, fl, fv, fz) j).1.2.2.2))).2.2.2))]) C (c_X2_turn l g a ((plL th ((co, ky, vl, mk), fs, fl, fv, fz) j).1.1) ((plL th ((co, ky, vl, mk), fs, fl, fv, fz) j).1.2.1) ((plL th ((co, ky, vl, mk), fs, fl, fv, fz) j).1.2.2.1) ((plL th ((co, ky, vl, mk), fs, fl, fv, fz) j).1.2.2.2) th (((plL th ((co, ky, vl, mk), fs, fl, fv, fz) j).2.2.2.2) + 1) (((plL th ((co, ky, vl, mk), fs, fl, fv, fz) j).1.2.1 (fpN (pur (plL th ((co, ky, vl, mk), fs, fl, fv, fz) j).1) 63)).toNatClampNeg) (((plL th ((co, ky, vl, mk), fs, fl, fv, fz) j).1.2.2.1) (fpN (pur (plL th ((co, ky, vl, mk), fs, fl, fv, fz) j).1) 63)) (-(((plL th ((co, ky, vl, mk), fs, fl, fv, fz) j).1.1) (fpN (pur (plL th ((co, ky, vl, mk), fs, fl, fv, fz) j).1) 63))) (by omega) (by omega) (Nat.lt_trans hkk2 (by decide))) (cwV 3 C.2.2.2.2.1 gX2_peel_X2_turn rfl rfl rfl (by decide +kernel) ⟨Nat.le_of_ble_eq_true rfl, Nat.le_of_ble_eq_true rfl⟩) 4 rfl rfl rfl [4, 0, 1, 2, 3] [5, 6, 7] rfl rfl rfl rfl rfl (by decide) rfl rfl (Nat.le_of_ble_eq_true rfl) dX2_peel_68 ⟨Nat.le_of_ble_eq_true rfl, Nat.le_of_ble_eq_true rfl⟩ rfl ?_
          refine g_iinc_n (d := 1) (L' := [(1, .int (nI (j + 1))), (5, .long (((plL th ((co, ky, vl, mk), fs, fl, fv, fz) j).1.2.2.1) (fpN (pur (plL th ((co, ky, vl, mk), fs, fl, fv, fz) j).1) 63))), (4, .int (nI (((plL th ((co, ky, vl, mk), fs, fl, fv, fz) j).1.2.1 (fpN (pur (plL th ((co, ky, vl, mk), fs, fl, fv, fz) j).1) 63)).toNatClampNeg))), (3, .int (((plL th ((co, ky, vl, mk), fs, fl, fv, fz) j).1.1) (fpN (pur (plL th ((co, ky, vl, mk), fs, fl, fv, fz) j).1) 63))), (2, .int (nI (fpN (pur (plL th ((co, ky, vl, mk), fs, fl, fv, fz) j).1) 63))), (0, .ref (a 0))]) C dX2_peel_71 5 rfl (by decide) (by decide) rfl ?_
          refine g_goto (tgt := 2) C dX2_peel_74 (by decide) ?_
          refine g_L (L2 := [(0, .ref (a 0)), (1, .int (nI (j + 1)))]) [5, 0] rfl ?_
          refine g_perm (w2 := [(a 0, .inr (3, [.ref (a 1), .ref (a 2), .ref (a 3), .ref (a 4), .ref (a 5), .ref (a 6), .ref (a 7), .int (nI th), .int (nI (((plL th ((co, ky, vl, mk), fs, fl, fv, fz) j).2.2.2.2) + 1))])), (a 1, gI g 63 ((tnL th (((plL th ((co, ky, vl, mk), fs, fl, fv, fz) j).1.2.1 (fpN (pur (plL th ((co, ky, vl, mk), fs, fl, fv, fz) j).1) 63)).toNatClampNeg) (((plL th ((co, ky, vl, mk), fs, fl, fv, fz) j).1.2.2.1) (fpN (pur (plL th ((co, ky, vl, mk), fs, fl, fv, fz) j).1) 63)) (-(((plL th ((co, ky, vl, mk), fs, fl, fv, fz) j).1.1) (fpN (pur (plL th ((co, ky, vl, mk), fs, fl, fv, fz) j).1) 63))) (((plL th ((co, ky, vl, mk), fs, fl, fv, fz) j).1.1), ((plL th ((co, ky, vl, mk), fs, fl, fv, fz) j).1.2.1), ((plL th ((co, ky, vl, mk), fs, fl, fv, fz) j).1.2.2.1), ((plL th ((co, ky, vl, mk), fs, fl, fv, fz) j).1.2.2.2))).1)), (a 2, gI g 63 ((tnL th (((plL th ((co, ky, vl, mk), fs, fl, fv, fz) j).1.2.1 (fpN (pur (plL th ((co, ky, vl, mk), fs, fl, fv, fz) j).1) 63)).toNatClampNeg) (((plL th ((co, ky, vl, mk), fs, fl, fv, fz) j).1.2.2.1) (fpN (pur (plL th ((co, ky, vl, mk), fs, fl, fv, fz) j).1) 63)) (-(((plL th ((co, ky, vl, mk), fs, fl, fv, fz) j).1.1) (fpN (pur (plL th ((co, ky, vl, mk), fs, fl, fv, fz) j).1) 63))) (((plL th ((co, ky, vl, mk), fs, fl, fv, fz) j).1.1), ((plL th ((co, ky, vl, mk), fs, fl, fv, fz) j).1.2.1), ((plL th ((co, ky, vl, mk), fs, fl, fv, fz) j).1.2.2.1), ((plL th ((co, ky, vl, mk), fs, fl, fv, fz) j).1.2.2.2))).2.1)), (a 3, gJ g 63 ((tnL th (((plL th ((co, ky, vl, mk), fs, fl, fv, fz) j).1.2.1 (fpN (pur (plL th ((co, ky, vl, mk), fs, fl, fv, fz) j).1) 63)).toNatClampNeg) (((plL th ((co, ky, vl, mk), fs, fl, fv, fz) j).1.2.2.1) (fpN (pur (plL th ((co, ky, vl, mk), fs, fl, fv, fz) j).1) 63)) (-(((plL th ((co, ky, vl, mk), fs, fl, fv, fz) j).1.1) (fpN (pur (plL th ((co, ky, vl, mk), fs, fl, fv, fz) j).1) 63))) (((plL th ((co, ky, vl, mk), fs, fl, fv, fz) j).1.1), ((plL th ((co, ky, vl, mk), fs, fl, fv, fz) j).1.2.1), ((plL th ((co, ky, vl, mk), fs, fl, fv, fz) j).1.2.2.1), ((plL th ((co, ky, vl, mk), fs, fl, fv, fz) j).1.2.2.2))).2.2.1)), (a 4, gI g 63 ((tnL th (((plL th ((co, ky, vl, mk), fs, fl, fv, fz) j).1.2.1 (fpN (pur (plL th ((co, ky, vl, mk), fs, fl, fv, fz) j).1) 63)).toNatClampNeg) (((plL th ((co, ky, vl, mk), fs, fl, fv, fz) j).1.2.2.1) (fpN (pur (plL th ((co, ky, vl, mk), fs, fl, fv, fz) j).1) 63)) (-(((plL th ((co, ky, vl, mk), fs, fl, fv, fz) j).1.1) (fpN (pur (plL th ((co, ky, vl, mk), fs, fl, fv, fz) j).1) 63))) (((plL th ((co, ky, vl, mk), fs, fl, fv, fz) j).1.1), ((plL th ((co, ky, vl, mk), fs, fl, fv, fz) j).1.2.1), ((plL th ((co, ky, vl, mk), fs, fl, fv, fz) j).1.2.2.1), ((plL th ((co, ky, vl, mk), fs, fl, fv, fz) j).1.2.2.2))).2.2.2)), (a 5, gI g 256 (va_up ((plL th ((co, ky, vl, mk), fs, fl, fv, fz) j).2.1) ((plL th ((co, ky, vl, mk), fs, fl, fv, fz) j).2.2.2.2) (nI 0))), (a 6, gN g 256 (va_up ((plL th ((co, ky, vl, mk), fs, fl, fv, fz) j).2.2.1) ((plL th ((co, ky, vl, mk), fs, fl, fv, fz) j).2.2.2.2) (((plL th ((co, ky, vl, mk), fs, fl, fv, fz) j).1.2.1 (fpN (pur (plL th ((co, ky, vl, mk), fs, fl, fv, fz) j).1) 63)).toNatClampNeg))), (a 7, gJ g 256 (va_up ((plL th ((co, ky, vl, mk), fs, fl, fv, fz) j).2.2.2.1) ((plL th ((co, ky, vl, mk), fs, fl, fv, fz) j).2.2.2.2) (((plL th ((co, ky, vl, mk), fs, fl, fv, fz) j).1.2.2.1) (fpN (pur (plL th ((co, ky, vl, mk), fs, fl, fv, fz) j).1) 63))))]) [3, 4, 5, 6, 7, 0, 1, 2] rfl rfl rfl ?_
          exact ihj (by show _ + 1 = _; rw [hPj])
      · skip
        refine g_perm (w2 := [(a 0, .inr (3, [.ref (a 1), .ref (a 2), .ref (a 3), .ref (a 4), .ref (a 5), .ref (a 6), .ref (a 7), .int (nI th), .int (nI ((plL th ((co, ky, vl, mk), fs, fl, fv, fz) j).2.2.2.2))])), (a 1, gI g 63 ((plL th ((co, ky, vl, mk), fs, fl, fv, fz) j).1.1)), (a 2, gI g 63 ((plL th ((co, ky, vl, mk), fs, fl, fv, fz) j).1.2.1)), (a 3, gJ g 63 ((plL th ((co, ky, vl, mk), fs, fl, fv, fz) j).1.2.2.1)), (a 4, gI g 63 ((plL th ((co, ky, vl, mk), fs, fl, fv, fz) j).1.2.2.2)), (a 5, gI g 256 ((plL th ((co, ky, vl, mk), fs, fl, fv, fz) j).2.1)), (a 6, gN g 256 ((plL th ((co, ky, vl, mk), fs, fl, fv, fz) j).2.2.1)), (a 7, gJ g 256 ((plL th ((co, ky, vl, mk), fs, fl, fv, fz) j).2.2.2.1))]) [3, 4, 5, 6, 7, 0, 1, 2] rfl rfl rfl ?_
        refine g_vret C dX2_peel_19 (by decide) (by decide) ?_
        have est := plL_stop (fpI_eq (by decide) c16) (256 - j)
        rw [show j + (256 - j) = 256 by omega] at est
        exact ⟨rfl, by rw [est]⟩
set_option maxHeartbeats 4000000 in
set_option maxRecDepth 100000 in
theorem c_X2_isZero (l : Launch) (g : gE) (a : Nat → Nat) (co ky : Nat → Int32) (vl : Nat → Int64) (mk : Nat → Int32) (th fz : Nat) : Kt l g yX2_isZero wsX2_isZero 0 0 0 0 [.ref (a 0)] [(a 0, .inr (3, [.ref (a 1), .ref (a 2), .ref (a 3), .ref (a 4), .ref (a 5), .ref (a 6), .ref (a 7), .int (nI th), .int (nI fz)])), (a 1, gI g 63 co), (a 2, gI g 63 ky), (a 3, gJ g 63 vl), (a 4, gI g 63 mk)] (kR (some (.int (bI (isz (co, ky, vl, mk) 63)))) [(a 0, .inr (3, [.ref (a 1), .ref (a 2), .ref (a 3), .ref (a 4), .ref (a 5), .ref (a 6), .ref (a 7), .int (nI th), .int (nI fz)])), (a 1, gI g 63 co), (a 2, gI g 63 ky), (a 3, gJ g 63 vl), (a 4, gI g 63 mk)]) := by
  have hinX2 : ∀ w ∈ wsX20, w ∈ wsX2_isZero := by
    intro w h
    unfold wsX2_isZero
    simp only [List.mem_cons, List.mem_append]
    simp only [h, or_true, true_or]
  refine g_enter (cc := cX2_isZero) (maxL := 2) (ret := (some .boolean)) (own := RX2) (L := [(0, .ref (a 0))]) (by decide) rfl rfl (Nat.le_of_ble_eq_true rfl) rfl ?_
  intro p e s m args below meth c hin0 C
  refine g_iconst (v := nI 0) C dX2_isZero_0 (by decide) ?_
  refine g_istore_n (L' := [(1, .int (nI 0)), (0, .ref (a 0))]) C dX2_isZero_1 rfl (by decide) rfl ?_
  refine g_up 63 0 (fun j => ∀ q, q < j → co q = 0 ∧ ky q = 0 ∧ vl q = 0 ∧ mk q = 0) (fun j => [(1, .int (nI j)), (0, .ref (a 0))]) (fun j => [(a 0, .inr (3, [.ref (a 1), .ref (a 2), .ref (a 3), .ref (a 4), .ref (a 5), .ref (a 6), .ref (a 7), .int (nI th), .int (nI fz)])), (a 1, gI g 63 co), (a 2, gI g 63 ky), (a 3, gJ g 63 vl), (a 4, gI g 63 mk)]) (by omega) (fun q hq => absurd hq (Nat.not_lt_zero q)) ?_ ?_
  · intro hPj
    try dsimp only
    refine g_iload_n C dX2_isZero_2 rfl 0 rfl ?_
    refine g_bipush (v := nI 63) C dX2_isZero_3 (by decide) ?_
    refine g_icmp_ge_n (tgt := 54) C dX2_isZero_5 (by decide) (by omega) (by omega) (fun c5 => ?_) (fun c5 => ?_)
    · skip
      refine g_iconst (v := nI 1) C dX2_isZero_54 (by decide) ?_
      refine g_st (st2 := [.int (bI true)]) rfl ?_
      refine g_zret C dX2_isZero_55 (by decide) (by decide) ?_
      refine ⟨congrArg (fun b => some (Value.int (bI b))) ?_, rfl⟩
      exact (isz_t hPj).symm
    · skip
      exfalso; omega
  · intro j hlj huj hPj ihj
    try dsimp only at ihj ⊢
    refine g_iload_n C dX2_isZero_2 rfl 0 rfl ?_
    refine g_bipush (v := nI 63) C dX2_isZero_3 (by decide) ?_
    refine g_icmp_ge_n (tgt := 54) C dX2_isZero_5 (by decide) (by omega) (by omega) (fun c5 => ?_) (fun c5 => ?_)
    · skip
      exfalso; omega
    · skip
      refine g_aload_n C dX2_isZero_8 rfl 1 rfl ?_
      refine g_get C hinX2 0 rfl rfl 0 (by decide) (by decide +kernel) rfl rfl dX2_isZero_9 ?_
      refine g_iload_n C dX2_isZero_12 rfl 0 rfl ?_
      refine g_iald C 1 rfl (by omega) (by decide) dX2_isZero_13 ?_
      refine g_if_ne (tgt := 46) C dX2_isZero_14 (by decide) (fun c14 => ?_) (fun c14 => ?_)
      · skip
        refine g_iconst (v := nI 0) C dX2_isZero_46 (by decide) ?_
        refine g_st (st2 := [.int (bI false)]) rfl ?_
        refine g_zret C dX2_isZero_47 (by decide) (by decide) ?_
        refine ⟨congrArg (fun b => some (Value.int (bI b))) ?_, rfl⟩
        first | exact (isz_f huj (fun z => c14 z.1)).symm | exact (isz_f huj (fun z => c23 z.2.1)).symm | exact (isz_f huj (fun z => c34 (lgc_eq.mpr z.2.2.1))).symm | exact (isz_f huj (fun z => c43 z.2.2.2)).symm
      · skip
        refine g_aload_n C dX2_isZero_17 rfl 1 rfl ?_
        refine g_get C hinX2 0 rfl rfl 1 (by decide) (by decide +kernel) rfl rfl dX2_isZero_18 ?_
        refine g_iload_n C dX2_isZero_21 rfl 0 rfl ?_
        refine g_iald C 2 rfl (by omega) (by decide) dX2_isZero_22 ?_
        refine g_if_ne (tgt := 46) C dX2_isZero_23 (by decide) (fun c23 => ?_) (fun c23 => ?_)
        · skip
          refine g_iconst (v := nI 0) C dX2_isZero_46 (by decide) ?_
          refine g_st (st2 := [.int (bI false)]) rfl ?_
          refine g_zret C dX2_isZero_47 (by decide) (by decide) ?_
          refine ⟨congrArg (fun b => some (Value.int (bI b))) ?_, rfl⟩
          first | exact (isz_f huj (fun z => c14 z.1)).symm | exact (isz_f huj (fun z => c23 z.2.1)).symm | exact (isz_f huj (fun z => c34 (lgc_eq.mpr z.2.2.1))).symm | exact (isz_f huj (fun z => c43 z.2.2.2)).symm
        · skip
          refine g_aload_n C dX2_isZero_26 rfl 1 rfl ?_
          refine g_get C hinX2 0 rfl rfl 2 (by decide) (by decide +kernel) rfl rfl dX2_isZero_27 ?_
          refine g_iload_n C dX2_isZero_30 rfl 0 rfl ?_
          refine g_lald C 3 rfl (by omega) (by decide) dX2_isZero_31 ?_
          refine g_lconst (v := 0) C dX2_isZero_32 (by decide) ?_
          refine g_lcmp C dX2_isZero_33 ?_
          refine g_if_ne (tgt := 46) C dX2_isZero_34 (by decide) (fun c34 => ?_) (fun c34 => ?_)
          · skip
            refine g_iconst (v := nI 0) C dX2_isZero_46 (by decide) ?_
            refine g_st (st2 := [.int (bI false)]) rfl ?_
            refine g_zret C dX2_isZero_47 (by decide) (by decide) ?_
            refine ⟨congrArg (fun b => some (Value.int (bI b))) ?_, rfl⟩
            first | exact (isz_f huj (fun z => c14 z.1)).symm | exact (isz_f huj (fun z => c23 z.2.1)).symm | exact (isz_f huj (fun z => c34 (lgc_eq.mpr z.2.2.1))).symm | exact (isz_f huj (fun z => c43 z.2.2.2)).symm
          · skip
            refine g_aload_n C dX2_isZero_37 rfl 1 rfl ?_
            refine g_get C hinX2 0 rfl rfl 3 (by decide) (by decide +kernel) rfl rfl dX2_isZero_38 ?_
            refine g_iload_n C dX2_isZero_41 rfl 0 rfl ?_
            refine g_iald C 4 rfl (by omega) (by decide) dX2_isZero_42 ?_
            refine g_if_eq (tgt := 48) C dX2_isZero_43 (by decide) (fun c43 => ?_) (fun c43 => ?_)
            · skip
              refine g_iinc_n (d := 1) (L' := [(1, .int (nI (j + 1))), (0, .ref (a 0))]) C dX2_isZero_48 0 rfl (by decide) (by decide) rfl ?_
              refine g_goto (tgt := 2) C dX2_isZero_51 (by decide) ?_
              exact ihj (lt_s hPj ⟨c14, c23, lgc_eq.mp c34, c43⟩)
            · skip
              refine g_iconst (v := nI 0) C dX2_isZero_46 (by decide) ?_
              refine g_st (st2 := [.int (bI false)]) rfl ?_
              refine g_zret C dX2_isZero_47 (by decide) (by decide) ?_
              refine ⟨congrArg (fun b => some (Value.int (bI b))) ?_, rfl⟩
              first | exact (isz_f huj (fun z => c14 z.1)).symm | exact (isz_f huj (fun z => c23 z.2.1)).symm | exact (isz_f huj (fun z => c34 (lgc_eq.mpr z.2.2.1))).symm | exact (isz_f huj (fun z => c43 z.2.2.2)).symm
