set_option maxHeartbeats 4000000 in
set_option maxRecDepth 100000 in
theorem c_X0_init (l : Launch) (g : gE) (b : Nat) : Kt l g yX0_init wsX0_init 1 40 2 72 [.ref b] [(b, .inr (1, [.null, .null, .int 0]))] (fun v w => v = none ∧ ∃ a : Nat → Nat, a 0 = b ∧ w = [(a 0, .inr (1, [.ref (a 1), .ref (a 2), .int (nI 0)])), (a 1, gI g 8 (fun _ => 0)), (a 2, gI g 64 (fun _ => 0))]) := by
  have hinX0 : ∀ w ∈ wsX00, w ∈ wsX0_init := by
    intro w h
    unfold wsX0_init
    simp only [List.mem_cons, List.mem_append]
    simp only [h, or_true, true_or]
  refine g_enter (cc := cX0_init) (maxL := 1) (ret := none) (own := RX0) (L := [(0, .ref b)]) (by decide) rfl rfl (Nat.le_of_ble_eq_true rfl) rfl ?_
  intro p e s m args below meth c hin0 C
  refine g_aload_n C dX0_init_0 rfl 0 rfl ?_
  refine g_objInit C (by decide +kernel) (by decide +kernel) (by decide +kernel) dX0_init_1 (by decide) (by decide) ?_
  refine g_aload_n C dX0_init_4 rfl 0 rfl ?_
  refine g_bipush (v := nI 8) C dX0_init_5 (by decide) ?_
  refine g_newI C (by decide +kernel) (by decide) (by decide) (Nat.le_of_ble_eq_true rfl) (Nat.le_of_ble_eq_true rfl) dX0_init_7 (fun q7 => ?_)
  refine g_w (w2 := [(b, .inr (1, [.null, .null, .int 0])), (q7, gI g 8 (fun _ => 0))]) rfl ?_
  refine g_putF (ty := .array .int) (w2 := [(b, .inr (1, [.ref q7, .null, .int 0])), (q7, gI g 8 (fun _ => 0))]) C hinX0 0 rfl rfl 0 (by decide) (by decide +kernel) rfl tyX0 tyX0_ok nmX0 rfl hin0 rfl (by decide +kernel) rfl rfl (Nat.le_of_ble_eq_true rfl) rfl dX0_init_9 ?_
  refine g_aload_n C dX0_init_12 rfl 0 rfl ?_
  refine g_bipush (v := nI 64) C dX0_init_13 (by decide) ?_
  refine g_newI C (by decide +kernel) (by decide) (by decide) (Nat.le_of_ble_eq_true rfl) (Nat.le_of_ble_eq_true rfl) dX0_init_15 (fun q15 => ?_)
  refine g_w (w2 := [(b, .inr (1, [.ref q7, .null, .int 0])), (q7, gI g 8 (fun _ => 0)), (q15, gI g 64 (fun _ => 0))]) rfl ?_
  refine g_putF (ty := .array .int) (w2 := [(b, .inr (1, [.ref q7, .ref q15, .int 0])), (q7, gI g 8 (fun _ => 0)), (q15, gI g 64 (fun _ => 0))]) C hinX0 0 rfl rfl 1 (by decide) (by decide +kernel) rfl tyX0 tyX0_ok nmX0 rfl hin0 rfl (by decide +kernel) rfl rfl (Nat.le_of_ble_eq_true rfl) rfl dX0_init_17 ?_
  refine g_vret C dX0_init_20 (by decide) (by decide) ?_
  exact ⟨rfl, (fun k => match k with | 0 => b | 1 => q7 | _ => q15), rfl, rfl⟩
set_option maxHeartbeats 4000000 in
set_option maxRecDepth 100000 in
theorem c_X1_init (l : Launch) (g : gE) (b : Nat) : Kt l g yX1_init wsX1_init 1 40 6 1156 [.ref b] [(b, .inr (2, [.null, .null, .null, .null, .null, .null, .int 0]))] (fun v w => v = none ∧ ∃ a : Nat → Nat, a 0 = b ∧ w = [(a 0, .inr (2, [.ref (a 1), .ref (a 2), .ref (a 3), .ref (a 4), .ref (a 5), .ref (a 6), .int 0])), (a 1, gZ g 256 (fun _ => false)), (a 2, gJ g 256 (fun _ => 0)), (a 3, gZ g 4 (va_up (va_up (va_up (va_up (fun _ => false) 0 true) 1 true) 2 true) 3 true)), (a 4, gI g 512 (fun _ => 0)), (a 5, gI g 64 (fun _ => 0)), (a 6, gI g 64 (fun _ => 0))]) := by
  have hinX1 : ∀ w ∈ wsX10, w ∈ wsX1_init := by
    intro w h
    unfold wsX1_init
    simp only [List.mem_cons, List.mem_append]
    simp only [h, or_true, true_or]
  refine g_enter (cc := cX1_init) (maxL := 1) (ret := none) (own := RX1) (L := [(0, .ref b)]) (by decide) rfl rfl (Nat.le_of_ble_eq_true rfl) rfl ?_
  intro p e s m args below meth c hin0 C
  refine g_aload_n C dX1_init_0 rfl 0 rfl ?_
  refine g_objInit C (by decide +kernel) (by decide +kernel) (by decide +kernel) dX1_init_1 (by decide) (by decide) ?_
  refine g_aload_n C dX1_init_4 rfl 0 rfl ?_
  refine g_sipush (v := nI 256) C dX1_init_5 (by decide) ?_
  refine g_newZ C (by decide +kernel) (by decide) (by decide) (Nat.le_of_ble_eq_true rfl) (Nat.le_of_ble_eq_true rfl) dX1_init_8 (fun q8 => ?_)
  refine g_w (w2 := [(b, .inr (2, [.null, .null, .null, .null, .null, .null, .int 0])), (q8, gZ g 256 (fun _ => false))]) rfl ?_
  refine g_putF (ty := .array .boolean) (w2 := [(b, .inr (2, [.ref q8, .null, .null, .null, .null, .null, .int 0])), (q8, gZ g 256 (fun _ => false))]) C hinX1 0 rfl rfl 0 (by decide) (by decide +kernel) rfl tyX1 tyX1_ok nmX1 rfl hin0 rfl (by decide +kernel) rfl rfl (Nat.le_of_ble_eq_true rfl) rfl dX1_init_10 ?_
  refine g_aload_n C dX1_init_13 rfl 0 rfl ?_
  refine g_sipush (v := nI 256) C dX1_init_14 (by decide) ?_
  refine g_newJ C (by decide +kernel) (by decide) (by decide) (Nat.le_of_ble_eq_true rfl) (Nat.le_of_ble_eq_true rfl) dX1_init_17 (fun q17 => ?_)
  refine g_w (w2 := [(b, .inr (2, [.ref q8, .null, .null, .null, .null, .null, .int 0])), (q8, gZ g 256 (fun _ => false)), (q17, gJ g 256 (fun _ => 0))]) rfl ?_
  refine g_putF (ty := .array .long) (w2 := [(b, .inr (2, [.ref q8, .ref q17, .null, .null, .null, .null, .int 0])), (q8, gZ g 256 (fun _ => false)), (q17, gJ g 256 (fun _ => 0))]) C hinX1 0 rfl rfl 1 (by decide) (by decide +kernel) rfl tyX1 tyX1_ok nmX1 rfl hin0 rfl (by decide +kernel) rfl rfl (Nat.le_of_ble_eq_true rfl) rfl dX1_init_19 ?_
  refine g_aload_n C dX1_init_22 rfl 0 rfl ?_
  refine g_iconst (v := nI 4) C dX1_init_23 (by decide) ?_
  refine g_newZ C (by decide +kernel) (by decide) (by decide) (Nat.le_of_ble_eq_true rfl) (Nat.le_of_ble_eq_true rfl) dX1_init_24 (fun q24 => ?_)
  refine g_w (w2 := [(b, .inr (2, [.ref q8, .ref q17, .null, .null, .null, .null, .int 0])), (q8, gZ g 256 (fun _ => false)), (q17, gJ g 256 (fun _ => 0)), (q24, gZ g 4 (fun _ => false))]) rfl ?_
  refine g_dup C dX1_init_26 rfl ?_
  refine g_iconst (v := nI 0) C dX1_init_27 (by decide) ?_
  refine g_iconst (v := nI 1) C dX1_init_28 (by decide) ?_
  refine g_st (st2 := [.int (bI true), .int (nI 0), .ref q24, .ref q24, .ref b]) rfl ?_
  refine g_zast (w2 := [(b, .inr (2, [.ref q8, .ref q17, .null, .null, .null, .null, .int 0])), (q8, gZ g 256 (fun _ => false)), (q17, gJ g 256 (fun _ => 0)), (q24, gZ g 4 (va_up (fun _ => false) 0 true))]) C 3 rfl (by omega) (by decide) rfl dX1_init_29 ?_
  refine g_dup C dX1_init_30 rfl ?_
  refine g_iconst (v := nI 1) C dX1_init_31 (by decide) ?_
  refine g_iconst (v := nI 1) C dX1_init_32 (by decide) ?_
  refine g_st (st2 := [.int (bI true), .int (nI 1), .ref q24, .ref q24, .ref b]) rfl ?_
  refine g_zast (w2 := [(b, .inr (2, [.ref q8, .ref q17, .null, .null, .null, .null, .int 0])), (q8, gZ g 256 (fun _ => false)), (q17, gJ g 256 (fun _ => 0)), (q24, gZ g 4 (va_up (va_up (fun _ => false) 0 true) 1 true))]) C 3 rfl (by omega) (by decide) rfl dX1_init_33 ?_
  refine g_dup C dX1_init_34 rfl ?_
  refine g_iconst (v := nI 2) C dX1_init_35 (by decide) ?_
  refine g_iconst (v := nI 1) C dX1_init_36 (by decide) ?_
  refine g_st (st2 := [.int (bI true), .int (nI 2), .ref q24, .ref q24, .ref b]) rfl ?_
  refine g_zast (w2 := [(b, .inr (2, [.ref q8, .ref q17, .null, .null, .null, .null, .int 0])), (q8, gZ g 256 (fun _ => false)), (q17, gJ g 256 (fun _ => 0)), (q24, gZ g 4 (va_up (va_up (va_up (fun _ => false) 0 true) 1 true) 2 true))]) C 3 rfl (by omega) (by decide) rfl dX1_init_37 ?_
  refine g_dup C dX1_init_38 rfl ?_
  refine g_iconst (v := nI 3) C dX1_init_39 (by decide) ?_
  refine g_iconst (v := nI 1) C dX1_init_40 (by decide) ?_
  refine g_st (st2 := [.int (bI true), .int (nI 3), .ref q24, .ref q24, .ref b]) rfl ?_
  refine g_zast (w2 := [(b, .inr (2, [.ref q8, .ref q17, .null, .null, .null, .null, .int 0])), (q8, gZ g 256 (fun _ => false)), (q17, gJ g 256 (fun _ => 0)), (q24, gZ g 4 (va_up (va_up (va_up (va_up (fun _ => false) 0 true) 1 true) 2 true) 3 true))]) C 3 rfl (by omega) (by decide) rfl dX1_init_41 ?_
  refine g_putF (ty := .array .boolean) (w2 := [(b, .inr (2, [.ref q8, .ref q17, .ref q24, .null, .null, .null, .int 0])), (q8, gZ g 256 (fun _ => false)), (q17, gJ g 256 (fun _ => 0)), (q24, gZ g 4 (va_up (va_up (va_up (va_up (fun _ => false) 0 true) 1 true) 2 true) 3 true))]) C hinX1 0 rfl rfl 2 (by decide) (by decide +kernel) rfl tyX1 tyX1_ok nmX1 rfl hin0 rfl (by decide +kernel) rfl rfl (Nat.le_of_ble_eq_true rfl) rfl dX1_init_42 ?_
  refine g_aload_n C dX1_init_45 rfl 0 rfl ?_
  refine g_sipush (v := nI 512) C dX1_init_46 (by decide) ?_
  refine g_newI C (by decide +kernel) (by decide) (by decide) (Nat.le_of_ble_eq_true rfl) (Nat.le_of_ble_eq_true rfl) dX1_init_49 (fun q49 => ?_)
  refine g_w (w2 := [(b, .inr (2, [.ref q8, .ref q17, .ref q24, .null, .null, .null, .int 0])), (q8, gZ g 256 (fun _ => false)), (q17, gJ g 256 (fun _ => 0)), (q24, gZ g 4 (va_up (va_up (va_up (va_up (fun _ => false) 0 true) 1 true) 2 true) 3 true)), (q49, gI g 512 (fun _ => 0))]) rfl ?_
  refine g_putF (ty := .array .int) (w2 := [(b, .inr (2, [.ref q8, .ref q17, .ref q24, .ref q49, .null, .null, .int 0])), (q8, gZ g 256 (fun _ => false)), (q17, gJ g 256 (fun _ => 0)), (q24, gZ g 4 (va_up (va_up (va_up (va_up (fun _ => false) 0 true) 1 true) 2 true) 3 true)), (q49, gI g 512 (fun _ => 0))]) C hinX1 0 rfl rfl 3 (by decide) (by decide +kernel) rfl tyX1 tyX1_ok nmX1 rfl hin0 rfl (by decide +kernel) rfl rfl (Nat.le_of_ble_eq_true rfl) rfl dX1_init_51 ?_
  refine g_aload_n C dX1_init_54 rfl 0 rfl ?_
  refine g_bipush (v := nI 64) C dX1_init_55 (by decide) ?_
  refine g_newI C (by decide +kernel) (by decide) (by decide) (Nat.le_of_ble_eq_true rfl) (Nat.le_of_ble_eq_true rfl) dX1_init_57 (fun q57 => ?_)
  refine g_w (w2 := [(b, .inr (2, [.ref q8, .ref q17, .ref q24, .ref q49, .null, .null, .int 0])), (q8, gZ g 256 (fun _ => false)), (q17, gJ g 256 (fun _ => 0)), (q24, gZ g 4 (va_up (va_up (va_up (va_up (fun _ => false) 0 true) 1 true) 2 true) 3 true)), (q49, gI g 512 (fun _ => 0)), (q57, gI g 64 (fun _ => 0))]) rfl ?_
  refine g_putF (ty := .array .int) (w2 := [(b, .inr (2, [.ref q8, .ref q17, .ref q24, .ref q49, .ref q57, .null, .int 0])), (q8, gZ g 256 (fun _ => false)), (q17, gJ g 256 (fun _ => 0)), (q24, gZ g 4 (va_up (va_up (va_up (va_up (fun _ => false) 0 true) 1 true) 2 true) 3 true)), (q49, gI g 512 (fun _ => 0)), (q57, gI g 64 (fun _ => 0))]) C hinX1 0 rfl rfl 4 (by decide) (by decide +kernel) rfl tyX1 tyX1_ok nmX1 rfl hin0 rfl (by decide +kernel) rfl rfl (Nat.le_of_ble_eq_true rfl) rfl dX1_init_59 ?_
  refine g_aload_n C dX1_init_62 rfl 0 rfl ?_
  refine g_bipush (v := nI 64) C dX1_init_63 (by decide) ?_
  refine g_newI C (by decide +kernel) (by decide) (by decide) (Nat.le_of_ble_eq_true rfl) (Nat.le_of_ble_eq_true rfl) dX1_init_65 (fun q65 => ?_)
  refine g_w (w2 := [(b, .inr (2, [.ref q8, .ref q17, .ref q24, .ref q49, .ref q57, .null, .int 0])), (q8, gZ g 256 (fun _ => false)), (q17, gJ g 256 (fun _ => 0)), (q24, gZ g 4 (va_up (va_up (va_up (va_up (fun _ => false) 0 true) 1 true) 2 true) 3 true)), (q49, gI g 512 (fun _ => 0)), (q57, gI g 64 (fun _ => 0)), (q65, gI g 64 (fun _ => 0))]) rfl ?_
  refine g_putF (ty := .array .int) (w2 := [(b, .inr (2, [.ref q8, .ref q17, .ref q24, .ref q49, .ref q57, .ref q65, .int 0])), (q8, gZ g 256 (fun _ => false)), (q17, gJ g 256 (fun _ => 0)), (q24, gZ g 4 (va_up (va_up (va_up (va_up (fun _ => false) 0 true) 1 true) 2 true) 3 true)), (q49, gI g 512 (fun _ => 0)), (q57, gI g 64 (fun _ => 0)), (q65, gI g 64 (fun _ => 0))]) C hinX1 0 rfl rfl 5 (by decide) (by decide +kernel) rfl tyX1 tyX1_ok nmX1 rfl hin0 rfl (by decide +kernel) rfl rfl (Nat.le_of_ble_eq_true rfl) rfl dX1_init_67 ?_
  refine g_vret C dX1_init_70 (by decide) (by decide) ?_
  exact ⟨rfl, (fun k => match k with | 0 => b | 1 => q8 | 2 => q17 | 3 => q24 | 4 => q49 | 5 => q57 | _ => q65), rfl, rfl⟩
set_option maxHeartbeats 4000000 in
set_option maxRecDepth 100000 in
theorem c_X2_init (l : Launch) (g : gE) (b : Nat) : Kt l g yX2_init wsX2_init 1 40 7 1020 [.ref b] [(b, .inr (3, [.null, .null, .null, .null, .null, .null, .null, .int 0, .int 0]))] (fun v w => v = none ∧ ∃ a : Nat → Nat, a 0 = b ∧ w = [(a 0, .inr (3, [.ref (a 1), .ref (a 2), .ref (a 3), .ref (a 4), .ref (a 5), .ref (a 6), .ref (a 7), .int (nI 2), .int (nI 0)])), (a 1, gI g 63 (fun _ => 0)), (a 2, gI g 63 (fun _ => 0)), (a 3, gJ g 63 (fun _ => 0)), (a 4, gI g 63 (fun _ => 0)), (a 5, gI g 256 (fun _ => 0)), (a 6, gN g 256 (fun _ => 0)), (a 7, gJ g 256 (fun _ => 0))]) := by
  have hinX2 : ∀ w ∈ wsX20, w ∈ wsX2_init := by
    intro w h
    unfold wsX2_init
    simp only [List.mem_cons, List.mem_append]
    simp only [h, or_true, true_or]
  refine g_enter (cc := cX2_init) (maxL := 1) (ret := none) (own := RX2) (L := [(0, .ref b)]) (by decide) rfl rfl (Nat.le_of_ble_eq_true rfl) rfl ?_
  intro p e s m args below meth c hin0 C
  refine g_aload_n C dX2_init_0 rfl 0 rfl ?_
  refine g_objInit C (by decide +kernel) (by decide +kernel) (by decide +kernel) dX2_init_1 (by decide) (by decide) ?_
  refine g_aload_n C dX2_init_4 rfl 0 rfl ?_
  refine g_bipush (v := nI 63) C dX2_init_5 (by decide) ?_
  refine g_newI C (by decide +kernel) (by decide) (by decide) (Nat.le_of_ble_eq_true rfl) (Nat.le_of_ble_eq_true rfl) dX2_init_7 (fun q7 => ?_)
  refine g_w (w2 := [(b, .inr (3, [.null, .null, .null, .null, .null, .null, .null, .int 0, .int 0])), (q7, gI g 63 (fun _ => 0))]) rfl ?_
  refine g_putF (ty := .array .int) (w2 := [(b, .inr (3, [.ref q7, .null, .null, .null, .null, .null, .null, .int 0, .int 0])), (q7, gI g 63 (fun _ => 0))]) C hinX2 0 rfl rfl 0 (by decide) (by decide +kernel) rfl tyX2 tyX2_ok nmX2 rfl hin0 rfl (by decide +kernel) rfl rfl (Nat.le_of_ble_eq_true rfl) rfl dX2_init_9 ?_
  refine g_aload_n C dX2_init_12 rfl 0 rfl ?_
  refine g_bipush (v := nI 63) C dX2_init_13 (by decide) ?_
  refine g_newI C (by decide +kernel) (by decide) (by decide) (Nat.le_of_ble_eq_true rfl) (Nat.le_of_ble_eq_true rfl) dX2_init_15 (fun q15 => ?_)
  refine g_w (w2 := [(b, .inr (3, [.ref q7, .null, .null, .null, .null, .null, .null, .int 0, .int 0])), (q7, gI g 63 (fun _ => 0)), (q15, gI g 63 (fun _ => 0))]) rfl ?_
  refine g_putF (ty := .array .int) (w2 := [(b, .inr (3, [.ref q7, .ref q15, .null, .null, .null, .null, .null, .int 0, .int 0])), (q7, gI g 63 (fun _ => 0)), (q15, gI g 63 (fun _ => 0))]) C hinX2 0 rfl rfl 1 (by decide) (by decide +kernel) rfl tyX2 tyX2_ok nmX2 rfl hin0 rfl (by decide +kernel) rfl rfl (Nat.le_of_ble_eq_true rfl) rfl dX2_init_17 ?_
  refine g_aload_n C dX2_init_20 rfl 0 rfl ?_
  refine g_bipush (v := nI 63) C dX2_init_21 (by decide) ?_
  refine g_newJ C (by decide +kernel) (by decide) (by decide) (Nat.le_of_ble_eq_true rfl) (Nat.le_of_ble_eq_true rfl) dX2_init_23 (fun q23 => ?_)
  refine g_w (w2 := [(b, .inr (3, [.ref q7, .ref q15, .null, .null, .null, .null, .null, .int 0, .int 0])), (q7, gI g 63 (fun _ => 0)), (q15, gI g 63 (fun _ => 0)), (q23, gJ g 63 (fun _ => 0))]) rfl ?_
  refine g_putF (ty := .array .long) (w2 := [(b, .inr (3, [.ref q7, .ref q15, .ref q23, .null, .null, .null, .null, .int 0, .int 0])), (q7, gI g 63 (fun _ => 0)), (q15, gI g 63 (fun _ => 0)), (q23, gJ g 63 (fun _ => 0))]) C hinX2 0 rfl rfl 2 (by decide) (by decide +kernel) rfl tyX2 tyX2_ok nmX2 rfl hin0 rfl (by decide +kernel) rfl rfl (Nat.le_of_ble_eq_true rfl) rfl dX2_init_25 ?_
  refine g_aload_n C dX2_init_28 rfl 0 rfl ?_
  refine g_bipush (v := nI 63) C dX2_init_29 (by decide) ?_
  refine g_newI C (by decide +kernel) (by decide) (by decide) (Nat.le_of_ble_eq_true rfl) (Nat.le_of_ble_eq_true rfl) dX2_init_31 (fun q31 => ?_)
  refine g_w (w2 := [(b, .inr (3, [.ref q7, .ref q15, .ref q23, .null, .null, .null, .null, .int 0, .int 0])), (q7, gI g 63 (fun _ => 0)), (q15, gI g 63 (fun _ => 0)), (q23, gJ g 63 (fun _ => 0)), (q31, gI g 63 (fun _ => 0))]) rfl ?_
  refine g_putF (ty := .array .int) (w2 := [(b, .inr (3, [.ref q7, .ref q15, .ref q23, .ref q31, .null, .null, .null, .int 0, .int 0])), (q7, gI g 63 (fun _ => 0)), (q15, gI g 63 (fun _ => 0)), (q23, gJ g 63 (fun _ => 0)), (q31, gI g 63 (fun _ => 0))]) C hinX2 0 rfl rfl 3 (by decide) (by decide +kernel) rfl tyX2 tyX2_ok nmX2 rfl hin0 rfl (by decide +kernel) rfl rfl (Nat.le_of_ble_eq_true rfl) rfl dX2_init_33 ?_
  refine g_aload_n C dX2_init_36 rfl 0 rfl ?_
  refine g_sipush (v := nI 256) C dX2_init_37 (by decide) ?_
  refine g_newI C (by decide +kernel) (by decide) (by decide) (Nat.le_of_ble_eq_true rfl) (Nat.le_of_ble_eq_true rfl) dX2_init_40 (fun q40 => ?_)
  refine g_w (w2 := [(b, .inr (3, [.ref q7, .ref q15, .ref q23, .ref q31, .null, .null, .null, .int 0, .int 0])), (q7, gI g 63 (fun _ => 0)), (q15, gI g 63 (fun _ => 0)), (q23, gJ g 63 (fun _ => 0)), (q31, gI g 63 (fun _ => 0)), (q40, gI g 256 (fun _ => 0))]) rfl ?_
  refine g_putF (ty := .array .int) (w2 := [(b, .inr (3, [.ref q7, .ref q15, .ref q23, .ref q31, .ref q40, .null, .null, .int 0, .int 0])), (q7, gI g 63 (fun _ => 0)), (q15, gI g 63 (fun _ => 0)), (q23, gJ g 63 (fun _ => 0)), (q31, gI g 63 (fun _ => 0)), (q40, gI g 256 (fun _ => 0))]) C hinX2 0 rfl rfl 4 (by decide) (by decide +kernel) rfl tyX2 tyX2_ok nmX2 rfl hin0 rfl (by decide +kernel) rfl rfl (Nat.le_of_ble_eq_true rfl) rfl dX2_init_42 ?_
  refine g_aload_n C dX2_init_45 rfl 0 rfl ?_
  refine g_sipush (v := nI 256) C dX2_init_46 (by decide) ?_
  refine g_newI C (by decide +kernel) (by decide) (by decide) (Nat.le_of_ble_eq_true rfl) (Nat.le_of_ble_eq_true rfl) dX2_init_49 (fun q49 => ?_)
  refine g_w (w2 := [(b, .inr (3, [.ref q7, .ref q15, .ref q23, .ref q31, .ref q40, .null, .null, .int 0, .int 0])), (q7, gI g 63 (fun _ => 0)), (q15, gI g 63 (fun _ => 0)), (q23, gJ g 63 (fun _ => 0)), (q31, gI g 63 (fun _ => 0)), (q40, gI g 256 (fun _ => 0)), (q49, gI g 256 (fun _ => 0))]) rfl ?_
  refine g_putF (ty := .array .int) (w2 := [(b, .inr (3, [.ref q7, .ref q15, .ref q23, .ref q31, .ref q40, .ref q49, .null, .int 0, .int 0])), (q7, gI g 63 (fun _ => 0)), (q15, gI g 63 (fun _ => 0)), (q23, gJ g 63 (fun _ => 0)), (q31, gI g 63 (fun _ => 0)), (q40, gI g 256 (fun _ => 0)), (q49, gI g 256 (fun _ => 0))]) C hinX2 0 rfl rfl 5 (by decide) (by decide +kernel) rfl tyX2 tyX2_ok nmX2 rfl hin0 rfl (by decide +kernel) rfl rfl (Nat.le_of_ble_eq_true rfl) rfl dX2_init_51 ?_
  refine g_aload_n C dX2_init_54 rfl 0 rfl ?_
  refine g_sipush (v := nI 256) C dX2_init_55 (by decide) ?_
  refine g_newJ C (by decide +kernel) (by decide) (by decide) (Nat.le_of_ble_eq_true rfl) (Nat.le_of_ble_eq_true rfl) dX2_init_58 (fun q58 => ?_)
  refine g_w (w2 := [(b, .inr (3, [.ref q7, .ref q15, .ref q23, .ref q31, .ref q40, .ref q49, .null, .int 0, .int 0])), (q7, gI g 63 (fun _ => 0)), (q15, gI g 63 (fun _ => 0)), (q23, gJ g 63 (fun _ => 0)), (q31, gI g 63 (fun _ => 0)), (q40, gI g 256 (fun _ => 0)), (q49, gI g 256 (fun _ => 0)), (q58, gJ g 256 (fun _ => 0))]) rfl ?_
  refine g_putF (ty := .array .long) (w2 := [(b, .inr (3, [.ref q7, .ref q15, .ref q23, .ref q31, .ref q40, .ref q49, .ref q58, .int 0, .int 0])), (q7, gI g 63 (fun _ => 0)), (q15, gI g 63 (fun _ => 0)), (q23, gJ g 63 (fun _ => 0)), (q31, gI g 63 (fun _ => 0)), (q40, gI g 256 (fun _ => 0)), (q49, gI g 256 (fun _ => 0)), (q58, gJ g 256 (fun _ => 0))]) C hinX2 0 rfl rfl 6 (by decide) (by decide +kernel) rfl tyX2 tyX2_ok nmX2 rfl hin0 rfl (by decide +kernel) rfl rfl (Nat.le_of_ble_eq_true rfl) rfl dX2_init_60 ?_
  refine g_aload_n C dX2_init_63 rfl 0 rfl ?_
  refine g_iconst (v := nI 2) C dX2_init_64 (by decide) ?_
  refine g_put (ty := .int) (w2 := [(b, .inr (3, [.ref q7, .ref q15, .ref q23, .ref q31, .ref q40, .ref q49, .ref q58, .int (nI 2), .int 0])), (q7, gI g 63 (fun _ => 0)), (q15, gI g 63 (fun _ => 0)), (q23, gJ g 63 (fun _ => 0)), (q31, gI g 63 (fun _ => 0)), (q40, gI g 256 (fun _ => 0)), (q49, gI g 256 (fun _ => 0)), (q58, gJ g 256 (fun _ => 0))]) C hinX2 0 rfl rfl 7 (by decide) (by decide +kernel) rfl tyX2 tyX2_ok nmX2 rfl (by decide +kernel) rfl rfl (Nat.le_of_ble_eq_true rfl) rfl dX2_init_65 ?_
  refine g_vret C dX2_init_68 (by decide) (by decide) ?_
  exact ⟨rfl, (fun k => match k with | 0 => b | 1 => q7 | 2 => q15 | 3 => q23 | 4 => q31 | 5 => q40 | 6 => q49 | _ => q58), rfl, rfl⟩
set_option maxHeartbeats 4000000 in
set_option maxRecDepth 100000 in
theorem c_X3_init (l : Launch) (g : gE) (b : Nat) : Kt l g yX3_init wsX3_init 1 40 4 576 [.ref b] [(b, .inr (4, [.null, .null, .null, .null, .int 0, .int 0, .int 0, .int 0]))] (fun v w => v = none ∧ ∃ a : Nat → Nat, a 0 = b ∧ w = [(a 0, .inr (4, [.ref (a 1), .ref (a 2), .ref (a 3), .ref (a 4), .int (nI 0), .int (nI 0), .int (nI 0), .int (-1)])), (a 1, gN g 32 (fun _ => 0)), (a 2, gN g 32 (fun _ => 0)), (a 3, gI g 256 (fun _ => 0)), (a 4, gN g 256 (fun _ => 0))]) := by
  have hinX3 : ∀ w ∈ wsX30, w ∈ wsX3_init := by
    intro w h
    unfold wsX3_init
    simp only [List.mem_cons, List.mem_append]
    simp only [h, or_true, true_or]
  refine g_enter (cc := cX3_init) (maxL := 1) (ret := none) (own := RX3) (L := [(0, .ref b)]) (by decide) rfl rfl (Nat.le_of_ble_eq_true rfl) rfl ?_
  intro p e s m args below meth c hin0 C
  refine g_aload_n C dX3_init_0 rfl 0 rfl ?_
  refine g_objInit C (by decide +kernel) (by decide +kernel) (by decide +kernel) dX3_init_1 (by decide) (by decide) ?_
  refine g_aload_n C dX3_init_4 rfl 0 rfl ?_
  refine g_bipush (v := nI 32) C dX3_init_5 (by decide) ?_
  refine g_newI C (by decide +kernel) (by decide) (by decide) (Nat.le_of_ble_eq_true rfl) (Nat.le_of_ble_eq_true rfl) dX3_init_7 (fun q7 => ?_)
  refine g_w (w2 := [(b, .inr (4, [.null, .null, .null, .null, .int 0, .int 0, .int 0, .int 0])), (q7, gI g 32 (fun _ => 0))]) rfl ?_
  refine g_putF (ty := .array .int) (w2 := [(b, .inr (4, [.ref q7, .null, .null, .null, .int 0, .int 0, .int 0, .int 0])), (q7, gI g 32 (fun _ => 0))]) C hinX3 0 rfl rfl 0 (by decide) (by decide +kernel) rfl tyX3 tyX3_ok nmX3 rfl hin0 rfl (by decide +kernel) rfl rfl (Nat.le_of_ble_eq_true rfl) rfl dX3_init_9 ?_
  refine g_aload_n C dX3_init_12 rfl 0 rfl ?_
  refine g_bipush (v := nI 32) C dX3_init_13 (by decide) ?_
  refine g_newI C (by decide +kernel) (by decide) (by decide) (Nat.le_of_ble_eq_true rfl) (Nat.le_of_ble_eq_true rfl) dX3_init_15 (fun q15 => ?_)
  refine g_w (w2 := [(b, .inr (4, [.ref q7, .null, .null, .null, .int 0, .int 0, .int 0, .int 0])), (q7, gI g 32 (fun _ => 0)), (q15, gI g 32 (fun _ => 0))]) rfl ?_
  refine g_putF (ty := .array .int) (w2 := [(b, .inr (4, [.ref q7, .ref q15, .null, .null, .int 0, .int 0, .int 0, .int 0])), (q7, gI g 32 (fun _ => 0)), (q15, gI g 32 (fun _ => 0))]) C hinX3 0 rfl rfl 1 (by decide) (by decide +kernel) rfl tyX3 tyX3_ok nmX3 rfl hin0 rfl (by decide +kernel) rfl rfl (Nat.le_of_ble_eq_true rfl) rfl dX3_init_17 ?_
  refine g_aload_n C dX3_init_20 rfl 0 rfl ?_
  refine g_sipush (v := nI 256) C dX3_init_21 (by decide) ?_
  refine g_newI C (by decide +kernel) (by decide) (by decide) (Nat.le_of_ble_eq_true rfl) (Nat.le_of_ble_eq_true rfl) dX3_init_24 (fun q24 => ?_)
  refine g_w (w2 := [(b, .inr (4, [.ref q7, .ref q15, .null, .null, .int 0, .int 0, .int 0, .int 0])), (q7, gI g 32 (fun _ => 0)), (q15, gI g 32 (fun _ => 0)), (q24, gI g 256 (fun _ => 0))]) rfl ?_
  refine g_putF (ty := .array .int) (w2 := [(b, .inr (4, [.ref q7, .ref q15, .ref q24, .null, .int 0, .int 0, .int 0, .int 0])), (q7, gI g 32 (fun _ => 0)), (q15, gI g 32 (fun _ => 0)), (q24, gI g 256 (fun _ => 0))]) C hinX3 0 rfl rfl 2 (by decide) (by decide +kernel) rfl tyX3 tyX3_ok nmX3 rfl hin0 rfl (by decide +kernel) rfl rfl (Nat.le_of_ble_eq_true rfl) rfl dX3_init_26 ?_
  refine g_aload_n C dX3_init_29 rfl 0 rfl ?_
  refine g_sipush (v := nI 256) C dX3_init_30 (by decide) ?_
  refine g_newI C (by decide +kernel) (by decide) (by decide) (Nat.le_of_ble_eq_true rfl) (Nat.le_of_ble_eq_true rfl) dX3_init_33 (fun q33 => ?_)
  refine g_w (w2 := [(b, .inr (4, [.ref q7, .ref q15, .ref q24, .null, .int 0, .int 0, .int 0, .int 0])), (q7, gI g 32 (fun _ => 0)), (q15, gI g 32 (fun _ => 0)), (q24, gI g 256 (fun _ => 0)), (q33, gI g 256 (fun _ => 0))]) rfl ?_
  refine g_putF (ty := .array .int) (w2 := [(b, .inr (4, [.ref q7, .ref q15, .ref q24, .ref q33, .int 0, .int 0, .int 0, .int 0])), (q7, gI g 32 (fun _ => 0)), (q15, gI g 32 (fun _ => 0)), (q24, gI g 256 (fun _ => 0)), (q33, gI g 256 (fun _ => 0))]) C hinX3 0 rfl rfl 3 (by decide) (by decide +kernel) rfl tyX3 tyX3_ok nmX3 rfl hin0 rfl (by decide +kernel) rfl rfl (Nat.le_of_ble_eq_true rfl) rfl dX3_init_35 ?_
  refine g_aload_n C dX3_init_38 rfl 0 rfl ?_
  refine g_iconst (v := (-1)) C dX3_init_39 (by decide) ?_
  refine g_put (ty := .int) (w2 := [(b, .inr (4, [.ref q7, .ref q15, .ref q24, .ref q33, .int 0, .int 0, .int 0, .int (-1)])), (q7, gI g 32 (fun _ => 0)), (q15, gI g 32 (fun _ => 0)), (q24, gI g 256 (fun _ => 0)), (q33, gI g 256 (fun _ => 0))]) C hinX3 0 rfl rfl 7 (by decide) (by decide +kernel) rfl tyX3 tyX3_ok nmX3 rfl (by decide +kernel) rfl rfl (Nat.le_of_ble_eq_true rfl) rfl dX3_init_40 ?_
  refine g_vret C dX3_init_43 (by decide) (by decide) ?_
  exact ⟨rfl, (fun k => match k with | 0 => b | 1 => q7 | 2 => q15 | 3 => q24 | _ => q33), rfl, rfl⟩
set_option maxHeartbeats 4000000 in
set_option maxRecDepth 100000 in
theorem c_X4_init (l : Launch) (g : gE) (b : Nat) : Kt l g yX4_init wsX4_init 2 60 30 4014 [.ref b] [(b, .inr (5, [.null, .null, .null, .null, .null]))] (fun v w => v = none ∧ ∃ z o h y t : Nat → Nat, w = [(b, .inr (5, [.ref (z 0), .ref (o 0), .ref (h 0), .ref (y 0), .ref (t 0)])), (z 0, .inr (2, [.ref (z 1), .ref (z 2), .ref (z 3), .ref (z 4), .ref (z 5), .ref (z 6), .int 0])), (z 1, gZ g 256 (fun _ => false)), (z 2, gJ g 256 (fun _ => 0)), (z 3, gZ g 4 (va_up (va_up (va_up (va_up (fun _ => false) 0 true) 1 true) 2 true) 3 true)), (z 4, gI g 512 (fun _ => 0)), (z 5, gI g 64 (fun _ => 0)), (z 6, gI g 64 (fun _ => 0)), (o 0, .inr (2, [.ref (o 1), .ref (o 2), .ref (o 3), .ref (o 4), .ref (o 5), .ref (o 6), .int 0])), (o 1, gZ g 256 (fun _ => false)), (o 2, gJ g 256 (fun _ => 0)), (o 3, gZ g 4 (va_up (va_up (va_up (va_up (fun _ => false) 0 true) 1 true) 2 true) 3 true)), (o 4, gI g 512 (fun _ => 0)), (o 5, gI g 64 (fun _ => 0)), (o 6, gI g 64 (fun _ => 0)), (h 0, .inr (1, [.ref (h 1), .ref (h 2), .int (nI 0)])), (h 1, gI g 8 (fun _ => 0)), (h 2, gI g 64 (fun _ => 0)), (y 0, .inr (4, [.ref (y 1), .ref (y 2), .ref (y 3), .ref (y 4), .int (nI 0), .int (nI 0), .int (nI 0), .int (-1)])), (y 1, gN g 32 (fun _ => 0)), (y 2, gN g 32 (fun _ => 0)), (y 3, gI g 256 (fun _ => 0)), (y 4, gN g 256 (fun _ => 0)), (t 0, .inr (3, [.ref (t 1), .ref (t 2), .ref (t 3), .ref (t 4), .ref (t 5), .ref (t 6), .ref (t 7), .int (nI 2), .int (nI 0)])), (t 1, gI g 63 (fun _ => 0)), (t 2, gI g 63 (fun _ => 0)), (t 3, gJ g 63 (fun _ => 0)), (t 4, gI g 63 (fun _ => 0)), (t 5, gI g 256 (fun _ => 0)), (t 6, gN g 256 (fun _ => 0)), (t 7, gJ g 256 (fun _ => 0))]) := by
  have hinX0 : ∀ w ∈ wsX00, w ∈ wsX4_init := by
    intro w h
    unfold wsX4_init
    simp only [List.mem_cons, List.mem_append]
    simp only [h, or_true, true_or]
  have hinX1 : ∀ w ∈ wsX10, w ∈ wsX4_init := by
    intro w h
    unfold wsX4_init
    simp only [List.mem_cons, List.mem_append]
    simp only [h, or_true, true_or]
  have hinX2 : ∀ w ∈ wsX20, w ∈ wsX4_init := by
    intro w h
    unfold wsX4_init
    simp only [List.mem_cons, List.mem_append]
    simp only [h, or_true, true_or]
  have hinX3 : ∀ w ∈ wsX30, w ∈ wsX4_init := by
    intro w h
    unfold wsX4_init
    simp only [List.mem_cons, List.mem_append]
    simp only [h, or_true, true_or]
  have hinX4 : ∀ w ∈ wsX40, w ∈ wsX4_init := by
    intro w h
    unfold wsX4_init
    simp only [List.mem_cons, List.mem_append]
    simp only [h, or_true, true_or]
  refine g_enter (cc := cX4_init) (maxL := 1) (ret := none) (own := RX4) (L := [(0, .ref b)]) (by decide) rfl rfl (Nat.le_of_ble_eq_true rfl) rfl ?_
  intro p e s m args below meth c hin0 C
  refine g_aload_n C dX4_init_0 rfl 0 rfl ?_
  refine g_objInit C (by decide +kernel) (by decide +kernel) (by decide +kernel) dX4_init_1 (by decide) (by decide) ?_
  refine g_aload_n C dX4_init_4 rfl 0 rfl ?_
  refine g_new (ci := 2) (fs := [.null, .null, .null, .null, .null, .null, .int 0]) C hinX1 tyX1 tyX1_ok (by decide +kernel) (by decide +kernel) (by decide +kernel) rfl (fun j hj => match j, hj with | 0, _ => rfl | 1, _ => rfl | 2, _ => rfl | 3, _ => rfl | 4, _ => rfl | 5, _ => rfl | 6, _ => rfl | j + 7, h => absurd h (by omega)) (Nat.le_of_ble_eq_true rfl) (Nat.le_of_ble_eq_true rfl) dX4_init_5 (fun q5 => ?_)
  refine g_w (w2 := [(b, .inr (5, [.null, .null, .null, .null, .null])), (q5, .inr (2, [.null, .null, .null, .null, .null, .null, .int 0]))]) rfl ?_
  refine g_dup C dX4_init_8 rfl ?_
  refine g_callI (wr := [(b, .inr (5, [.null, .null, .null, .null, .null]))]) C (c_X1_init l g q5) (cwI 0 C.2.2.2.2.1 gX4_init_X1_init rfl rfl rfl (C.2.2.2.2.1 _ (by decide +kernel)) (C.2.2.2.2.1 _ (by decide +kernel)) (C.2.2.2.2.1 _ (by decide +kernel)) rfl (by decide +kernel) ⟨(Nat.le_of_ble_eq_true rfl), (Nat.le_of_ble_eq_true rfl)⟩) [1] [0] rfl rfl rfl rfl rfl (by decide) rfl rfl (Nat.le_of_ble_eq_true rfl) dX4_init_9 ⟨(Nat.le_of_ble_eq_true rfl), (Nat.le_of_ble_eq_true rfl)⟩ ?_
  rintro _ _ ⟨rfl, z, hzz, rfl⟩
  subst hzz
  refine g_st (st2 := [.ref (z 0), .ref b]) rfl ?_
  refine g_w (w2 := [(b, .inr (5, [.null, .null, .null, .null, .null])), (z 0, .inr (2, [.ref (z 1), .ref (z 2), .ref (z 3), .ref (z 4), .ref (z 5), .ref (z 6), .int 0])), (z 1, gZ g 256 (fun _ => false)), (z 2, gJ g 256 (fun _ => 0)), (z 3, gZ g 4 (va_up (va_up (va_up (va_up (fun _ => false) 0 true) 1 true) 2 true) 3 true)), (z 4, gI g 512 (fun _ => 0)), (z 5, gI g 64 (fun _ => 0)), (z 6, gI g 64 (fun _ => 0))]) rfl ?_
  refine g_putF (ty := .object "DigestTrees$Side") (w2 := [(b, .inr (5, [.ref (z 0), .null, .null, .null, .null])), (z 0, .inr (2, [.ref (z 1), .ref (z 2), .ref (z 3), .ref (z 4), .ref (z 5), .ref (z 6), .int 0])), (z 1, gZ g 256 (fun _ => false)), (z 2, gJ g 256 (fun _ => 0)), (z 3, gZ g 4 (va_up (va_up (va_up (va_up (fun _ => false) 0 true) 1 true) 2 true) 3 true)), (z 4, gI g 512 (fun _ => 0)), (z 5, gI g 64 (fun _ => 0)), (z 6, gI g 64 (fun _ => 0))]) C hinX4 0 rfl rfl 0 (by decide) (by decide +kernel) rfl tyX4 tyX4_ok nmX4 rfl hin0 rfl (by decide +kernel) rfl rfl (Nat.le_of_ble_eq_true rfl) rfl dX4_init_12 ?_
  refine g_aload_n C dX4_init_15 rfl 0 rfl ?_
  refine g_new (ci := 2) (fs := [.null, .null, .null, .null, .null, .null, .int 0]) C hinX1 tyX1 tyX1_ok (by decide +kernel) (by decide +kernel) (by decide +kernel) rfl (fun j hj => match j, hj with | 0, _ => rfl | 1, _ => rfl | 2, _ => rfl | 3, _ => rfl | 4, _ => rfl | 5, _ => rfl | 6, _ => rfl | j + 7, h => absurd h (by omega)) (Nat.le_of_ble_eq_true rfl) (Nat.le_of_ble_eq_true rfl) dX4_init_16 (fun q16 => ?_)
  refine g_w (w2 := [(b, .inr (5, [.ref (z 0), .null, .null, .null, .null])), (z 0, .inr (2, [.ref (z 1), .ref (z 2), .ref (z 3), .ref (z 4), .ref (z 5), .ref (z 6), .int 0])), (z 1, gZ g 256 (fun _ => false)), (z 2, gJ g 256 (fun _ => 0)), (z 3, gZ g 4 (va_up (va_up (va_up (va_up (fun _ => false) 0 true) 1 true) 2 true) 3 true)), (z 4, gI g 512 (fun _ => 0)), (z 5, gI g 64 (fun _ => 0)), (z 6, gI g 64 (fun _ => 0)), (q16, .inr (2, [.null, .null, .null, .null, .null, .null, .int 0]))]) rfl ?_
  refine g_dup C dX4_init_19 rfl ?_
  refine g_callI (wr := [(b, .inr (5, [.ref (z 0), .null, .null, .null, .null])), (z 0, .inr (2, [.ref (z 1), .ref (z 2), .ref (z 3), .ref (z 4), .ref (z 5), .ref (z 6), .int 0])), (z 1, gZ g 256 (fun _ => false)), (z 2, gJ g 256 (fun _ => 0)), (z 3, gZ g 4 (va_up (va_up (va_up (va_up (fun _ => false) 0 true) 1 true) 2 true) 3 true)), (z 4, gI g 512 (fun _ => 0)), (z 5, gI g 64 (fun _ => 0)), (z 6, gI g 64 (fun _ => 0))]) C (c_X1_init l g q16) (cwI 0 C.2.2.2.2.1 gX4_init_X1_init rfl rfl rfl (C.2.2.2.2.1 _ (by decide +kernel)) (C.2.2.2.2.1 _ (by decide +kernel)) (C.2.2.2.2.1 _ (by decide +kernel)) rfl (by decide +kernel) ⟨(Nat.le_of_ble_eq_true rfl), (Nat.le_of_ble_eq_true rfl)⟩) [8] [0, 1, 2, 3, 4, 5, 6, 7] rfl rfl rfl rfl rfl (by decide) rfl rfl (Nat.le_of_ble_eq_true rfl) dX4_init_20 ⟨(Nat.le_of_ble_eq_true rfl), (Nat.le_of_ble_eq_true rfl)⟩ ?_
  rintro _ _ ⟨rfl, o, hzo, rfl⟩
  subst hzo
  refine g_st (st2 := [.ref (o 0), .ref b]) rfl ?_
  refine g_w (w2 := [(b, .inr (5, [.ref (z 0), .null, .null, .null, .null])), (z 0, .inr (2, [.ref (z 1), .ref (z 2), .ref (z 3), .ref (z 4), .ref (z 5), .ref (z 6), .int 0])), (z 1, gZ g 256 (fun _ => false)), (z 2, gJ g 256 (fun _ => 0)), (z 3, gZ g 4 (va_up (va_up (va_up (va_up (fun _ => false) 0 true) 1 true) 2 true) 3 true)), (z 4, gI g 512 (fun _ => 0)), (z 5, gI g 64 (fun _ => 0)), (z 6, gI g 64 (fun _ => 0)), (o 0, .inr (2, [.ref (o 1), .ref (o 2), .ref (o 3), .ref (o 4), .ref (o 5), .ref (o 6), .int 0])), (o 1, gZ g 256 (fun _ => false)), (o 2, gJ g 256 (fun _ => 0)), (o 3, gZ g 4 (va_up (va_up (va_up (va_up (fun _ => false) 0 true) 1 true) 2 true) 3 true)), (o 4, gI g 512 (fun _ => 0)), (o 5, gI g 64 (fun _ => 0)), (o 6, gI g 64 (fun _ => 0))]) rfl ?_
  refine g_putF (ty := .object "DigestTrees$Side") (w2 := [(b, .inr (5, [.ref (z 0), .ref (o 0), .null, .null, .null])), (z 0, .inr (2, [.ref (z 1), .ref (z 2), .ref (z 3), .ref (z 4), .ref (z 5), .ref (z 6), .int 0])), (z 1, gZ g 256 (fun _ => false)), (z 2, gJ g 256 (fun _ => 0)), (z 3, gZ g 4 (va_up (va_up (va_up (va_up (fun _ => false) 0 true) 1 true) 2 true) 3 true)), (z 4, gI g 512 (fun _ => 0)), (z 5, gI g 64 (fun _ => 0)), (z 6, gI g 64 (fun _ => 0)), (o 0, .inr (2, [.ref (o 1), .ref (o 2), .ref (o 3), .ref (o 4), .ref (o 5), .ref (o 6), .int 0])), (o 1, gZ g 256 (fun _ => false)), (o 2, gJ g 256 (fun _ => 0)), (o 3, gZ g 4 (va_up (va_up (va_up (va_up (fun _ => false) 0 true) 1 true) 2 true) 3 true)), (o 4, gI g 512 (fun _ => 0)), (o 5, gI g 64 (fun _ => 0)), (o 6, gI g 64 (fun _ => 0))]) C hinX4 0 rfl rfl 1 (by decide) (by decide +kernel) rfl tyX4 tyX4_ok nmX4 rfl hin0 rfl (by decide +kernel) rfl rfl (Nat.le_of_ble_eq_true rfl) rfl dX4_init_23 ?_
  refine g_aload_n C dX4_init_26 rfl 0 rfl ?_
  refine g_new (ci := 1) (fs := [.null, .null, .int 0]) C hinX0 tyX0 tyX0_ok (by decide +kernel) (by decide +kernel) (by decide +kernel) rfl (fun j hj => match j, hj with | 0, _ => rfl | 1, _ => rfl | 2, _ => rfl | j + 3, h => absurd h (by omega)) (Nat.le_of_ble_eq_true rfl) (Nat.le_of_ble_eq_true rfl) dX4_init_27 (fun q27 => ?_)
  refine g_w (w2 := [(b, .inr (5, [.ref (z 0), .ref (o 0), .null, .null, .null])), (z 0, .inr (2, [.ref (z 1), .ref (z 2), .ref (z 3), .ref (z 4), .ref (z 5), .ref (z 6), .int 0])), (z 1, gZ g 256 (fun _ => false)), (z 2, gJ g 256 (fun _ => 0)), (z 3, gZ g 4 (va_up (va_up (va_up (va_up (fun _ => false) 0 true) 1 true) 2 true) 3 true)), (z 4, gI g 512 (fun _ => 0)), (z 5, gI g 64 (fun _ => 0)), (z 6, gI g 64 (fun _ => 0)), (o 0, .inr (2, [.ref (o 1), .ref (o 2), .ref (o 3), .ref (o 4), .ref (o 5), .ref (o 6), .int 0])), (o 1, gZ g 256 (fun _ => false)), (o 2, gJ g 256 (fun _ => 0)), (o 3, gZ g 4 (va_up (va_up (va_up (va_up (fun _ => false) 0 true) 1 true) 2 true) 3 true)), (o 4, gI g 512 (fun _ => 0)), (o 5, gI g 64 (fun _ => 0)), (o 6, gI g 64 (fun _ => 0)), (q27, .inr (1, [.null, .null, .int 0]))]) rfl ?_
  refine g_dup C dX4_init_30 rfl ?_
  refine g_callI (wr := [(b, .inr (5, [.ref (z 0), .ref (o 0), .null, .null, .null])), (z 0, .inr (2, [.ref (z 1), .ref (z 2), .ref (z 3), .ref (z 4), .ref (z 5), .ref (z 6), .int 0])), (z 1, gZ g 256 (fun _ => false)), (z 2, gJ g 256 (fun _ => 0)), (z 3, gZ g 4 (va_up (va_up (va_up (va_up (fun _ => false) 0 true) 1 true) 2 true) 3 true)), (z 4, gI g 512 (fun _ => 0)), (z 5, gI g 64 (fun _ => 0)), (z 6, gI g 64 (fun _ => 0)), (o 0, .inr (2, [.ref (o 1), .ref (o 2), .ref (o 3), .ref (o 4), .ref (o 5), .ref (o 6), .int 0])), (o 1, gZ g 256 (fun _ => false)), (o 2, gJ g 256 (fun _ => 0)), (o 3, gZ g 4 (va_up (va_up (va_up (va_up (fun _ => false) 0 true) 1 true) 2 true) 3 true)), (o 4, gI g 512 (fun _ => 0)), (o 5, gI g 64 (fun _ => 0)), (o 6, gI g 64 (fun _ => 0))]) C (c_X0_init l g q27) (cwI 0 C.2.2.2.2.1 gX4_init_X0_init rfl rfl rfl (C.2.2.2.2.1 _ (by decide +kernel)) (C.2.2.2.2.1 _ (by decide +kernel)) (C.2.2.2.2.1 _ (by decide +kernel)) rfl (by decide +kernel) ⟨(Nat.le_of_ble_eq_true rfl), (Nat.le_of_ble_eq_true rfl)⟩) [15] [0, 1, 2, 3, 4, 5, 6, 7, 8, 9, 10, 11, 12, 13, 14] rfl rfl rfl rfl rfl (by decide) rfl rfl (Nat.le_of_ble_eq_true rfl) dX4_init_31 ⟨(Nat.le_of_ble_eq_true rfl), (Nat.le_of_ble_eq_true rfl)⟩ ?_
  rintro _ _ ⟨rfl, h, hzh, rfl⟩
  subst hzh
  refine g_st (st2 := [.ref (h 0), .ref b]) rfl ?_
  refine g_w (w2 := [(b, .inr (5, [.ref (z 0), .ref (o 0), .null, .null, .null])), (z 0, .inr (2, [.ref (z 1), .ref (z 2), .ref (z 3), .ref (z 4), .ref (z 5), .ref (z 6), .int 0])), (z 1, gZ g 256 (fun _ => false)), (z 2, gJ g 256 (fun _ => 0)), (z 3, gZ g 4 (va_up (va_up (va_up (va_up (fun _ => false) 0 true) 1 true) 2 true) 3 true)), (z 4, gI g 512 (fun _ => 0)), (z 5, gI g 64 (fun _ => 0)), (z 6, gI g 64 (fun _ => 0)), (o 0, .inr (2, [.ref (o 1), .ref (o 2), .ref (o 3), .ref (o 4), .ref (o 5), .ref (o 6), .int 0])), (o 1, gZ g 256 (fun _ => false)), (o 2, gJ g 256 (fun _ => 0)), (o 3, gZ g 4 (va_up (va_up (va_up (va_up (fun _ => false) 0 true) 1 true) 2 true) 3 true)), (o 4, gI g 512 (fun _ => 0)), (o 5, gI g 64 (fun _ => 0)), (o 6, gI g 64 (fun _ => 0)), (h 0, .inr (1, [.ref (h 1), .ref (h 2), .int (nI 0)])), (h 1, gI g 8 (fun _ => 0)), (h 2, gI g 64 (fun _ => 0))]) rfl ?_
  refine g_putF (ty := .object "DigestTrees$Sha") (w2 := [(b, .inr (5, [.ref (z 0), .ref (o 0), .ref (h 0), .null, .null])), (z 0, .inr (2, [.ref (z 1), .ref (z 2), .ref (z 3), .ref (z 4), .ref (z 5), .ref (z 6), .int 0])), (z 1, gZ g 256 (fun _ => false)), (z 2, gJ g 256 (fun _ => 0)), (z 3, gZ g 4 (va_up (va_up (va_up (va_up (fun _ => false) 0 true) 1 true) 2 true) 3 true)), (z 4, gI g 512 (fun _ => 0)), (z 5, gI g 64 (fun _ => 0)), (z 6, gI g 64 (fun _ => 0)), (o 0, .inr (2, [.ref (o 1), .ref (o 2), .ref (o 3), .ref (o 4), .ref (o 5), .ref (o 6), .int 0])), (o 1, gZ g 256 (fun _ => false)), (o 2, gJ g 256 (fun _ => 0)), (o 3, gZ g 4 (va_up (va_up (va_up (va_up (fun _ => false) 0 true) 1 true) 2 true) 3 true)), (o 4, gI g 512 (fun _ => 0)), (o 5, gI g 64 (fun _ => 0)), (o 6, gI g 64 (fun _ => 0)), (h 0, .inr (1, [.ref (h 1), .ref (h 2), .int (nI 0)])), (h 1, gI g 8 (fun _ => 0)), (h 2, gI g 64 (fun _ => 0))]) C hinX4 0 rfl rfl 2 (by decide) (by decide +kernel) rfl tyX4 tyX4_ok nmX4 rfl hin0 rfl (by decide +kernel) rfl rfl (Nat.le_of_ble_eq_true rfl) rfl dX4_init_34 ?_
  refine g_aload_n C dX4_init_37 rfl 0 rfl ?_
  refine g_new (ci := 4) (fs := [.null, .null, .null, .null, .int 0, .int 0, .int 0, .int 0]) C hinX3 tyX3 tyX3_ok (by decide +kernel) (by decide +kernel) (by decide +kernel) rfl (fun j hj => match j, hj with | 0, _ => rfl | 1, _ => rfl | 2, _ => rfl | 3, _ => rfl | 4, _ => rfl | 5, _ => rfl | 6, _ => rfl | 7, _ => rfl | j + 8, h => absurd h (by omega)) (Nat.le_of_ble_eq_true rfl) (Nat.le_of_ble_eq_true rfl) dX4_init_38 (fun q38 => ?_)
  refine g_w (w2 := [(b, .inr (5, [.ref (z 0), .ref (o 0), .ref (h 0), .null, .null])), (z 0, .inr (2, [.ref (z 1), .ref (z 2), .ref (z 3), .ref (z 4), .ref (z 5), .ref (z 6), .int 0])), (z 1, gZ g 256 (fun _ => false)), (z 2, gJ g 256 (fun _ => 0)), (z 3, gZ g 4 (va_up (va_up (va_up (va_up (fun _ => false) 0 true) 1 true) 2 true) 3 true)), (z 4, gI g 512 (fun _ => 0)), (z 5, gI g 64 (fun _ => 0)), (z 6, gI g 64 (fun _ => 0)), (o 0, .inr (2, [.ref (o 1), .ref (o 2), .ref (o 3), .ref (o 4), .ref (o 5), .ref (o 6), .int 0])), (o 1, gZ g 256 (fun _ => false)), (o 2, gJ g 256 (fun _ => 0)), (o 3, gZ g 4 (va_up (va_up (va_up (va_up (fun _ => false) 0 true) 1 true) 2 true) 3 true)), (o 4, gI g 512 (fun _ => 0)), (o 5, gI g 64 (fun _ => 0)), (o 6, gI g 64 (fun _ => 0)), (h 0, .inr (1, [.ref (h 1), .ref (h 2), .int (nI 0)])), (h 1, gI g 8 (fun _ => 0)), (h 2, gI g 64 (fun _ => 0)), (q38, .inr (4, [.null, .null, .null, .null, .int 0, .int 0, .int 0, .int 0]))]) rfl ?_
  refine g_dup C dX4_init_41 rfl ?_
  refine g_callI (wr := [(b, .inr (5, [.ref (z 0), .ref (o 0), .ref (h 0), .null, .null])), (z 0, .inr (2, [.ref (z 1), .ref (z 2), .ref (z 3), .ref (z 4), .ref (z 5), .ref (z 6), .int 0])), (z 1, gZ g 256 (fun _ => false)), (z 2, gJ g 256 (fun _ => 0)), (z 3, gZ g 4 (va_up (va_up (va_up (va_up (fun _ => false) 0 true) 1 true) 2 true) 3 true)), (z 4, gI g 512 (fun _ => 0)), (z 5, gI g 64 (fun _ => 0)), (z 6, gI g 64 (fun _ => 0)), (o 0, .inr (2, [.ref (o 1), .ref (o 2), .ref (o 3), .ref (o 4), .ref (o 5), .ref (o 6), .int 0])), (o 1, gZ g 256 (fun _ => false)), (o 2, gJ g 256 (fun _ => 0)), (o 3, gZ g 4 (va_up (va_up (va_up (va_up (fun _ => false) 0 true) 1 true) 2 true) 3 true)), (o 4, gI g 512 (fun _ => 0)), (o 5, gI g 64 (fun _ => 0)), (o 6, gI g 64 (fun _ => 0)), (h 0, .inr (1, [.ref (h 1), .ref (h 2), .int (nI 0)])), (h 1, gI g 8 (fun _ => 0)), (h 2, gI g 64 (fun _ => 0))]) C (c_X3_init l g q38) (cwI 0 C.2.2.2.2.1 gX4_init_X3_init rfl rfl rfl (C.2.2.2.2.1 _ (by decide +kernel)) (C.2.2.2.2.1 _ (by decide +kernel)) (C.2.2.2.2.1 _ (by decide +kernel)) rfl (by decide +kernel) ⟨(Nat.le_of_ble_eq_true rfl), (Nat.le_of_ble_eq_true rfl)⟩) [18] [0, 1, 2, 3, 4, 5, 6, 7, 8, 9, 10, 11, 12, 13, 14, 15, 16, 17] rfl rfl rfl rfl rfl (by decide) rfl rfl (Nat.le_of_ble_eq_true rfl) dX4_init_42 ⟨(Nat.le_of_ble_eq_true rfl), (Nat.le_of_ble_eq_true rfl)⟩ ?_
  rintro _ _ ⟨rfl, y, hzy, rfl⟩
  subst hzy
  refine g_st (st2 := [.ref (y 0), .ref b]) rfl ?_
  refine g_w (w2 := [(b, .inr (5, [.ref (z 0), .ref (o 0), .ref (h 0), .null, .null])), (z 0, .inr (2, [.ref (z 1), .ref (z 2), .ref (z 3), .ref (z 4), .ref (z 5), .ref (z 6), .int 0])), (z 1, gZ g 256 (fun _ => false)), (z 2, gJ g 256 (fun _ => 0)), (z 3, gZ g 4 (va_up (va_up (va_up (va_up (fun _ => false) 0 true) 1 true) 2 true) 3 true)), (z 4, gI g 512 (fun _ => 0)), (z 5, gI g 64 (fun _ => 0)), (z 6, gI g 64 (fun _ => 0)), (o 0, .inr (2, [.ref (o 1), .ref (o 2), .ref (o 3), .ref (o 4), .ref (o 5), .ref (o 6), .int 0])), (o 1, gZ g 256 (fun _ => false)), (o 2, gJ g 256 (fun _ => 0)), (o 3, gZ g 4 (va_up (va_up (va_up (va_up (fun _ => false) 0 true) 1 true) 2 true) 3 true)), (o 4, gI g 512 (fun _ => 0)), (o 5, gI g 64 (fun _ => 0)), (o 6, gI g 64 (fun _ => 0)), (h 0, .inr (1, [.ref (h 1), .ref (h 2), .int (nI 0)])), (h 1, gI g 8 (fun _ => 0)), (h 2, gI g 64 (fun _ => 0)), (y 0, .inr (4, [.ref (y 1), .ref (y 2), .ref (y 3), .ref (y 4), .int (nI 0), .int (nI 0), .int (nI 0), .int (-1)])), (y 1, gN g 32 (fun _ => 0)), (y 2, gN g 32 (fun _ => 0)), (y 3, gI g 256 (fun _ => 0)), (y 4, gN g 256 (fun _ => 0))]) rfl ?_
  refine g_putF (ty := .object "DigestTrees$Walk") (w2 := [(b, .inr (5, [.ref (z 0), .ref (o 0), .ref (h 0), .ref (y 0), .null])), (z 0, .inr (2, [.ref (z 1), .ref (z 2), .ref (z 3), .ref (z 4), .ref (z 5), .ref (z 6), .int 0])), (z 1, gZ g 256 (fun _ => false)), (z 2, gJ g 256 (fun _ => 0)), (z 3, gZ g 4 (va_up (va_up (va_up (va_up (fun _ => false) 0 true) 1 true) 2 true) 3 true)), (z 4, gI g 512 (fun _ => 0)), (z 5, gI g 64 (fun _ => 0)), (z 6, gI g 64 (fun _ => 0)), (o 0, .inr (2, [.ref (o 1), .ref (o 2), .ref (o 3), .ref (o 4), .ref (o 5), .ref (o 6), .int 0])), (o 1, gZ g 256 (fun _ => false)), (o 2, gJ g 256 (fun _ => 0)), (o 3, gZ g 4 (va_up (va_up (va_up (va_up (fun _ => false) 0 true) 1 true) 2 true) 3 true)), (o 4, gI g 512 (fun _ => 0)), (o 5, gI g 64 (fun _ => 0)), (o 6, gI g 64 (fun _ => 0)), (h 0, .inr (1, [.ref (h 1), .ref (h 2), .int (nI 0)])), (h 1, gI g 8 (fun _ => 0)), (h 2, gI g 64 (fun _ => 0)), (y 0, .inr (4, [.ref (y 1), .ref (y 2), .ref (y 3), .ref (y 4), .int (nI 0), .int (nI 0), .int (nI 0), .int (-1)])), (y 1, gN g 32 (fun _ => 0)), (y 2, gN g 32 (fun _ => 0)), (y 3, gI g 256 (fun _ => 0)), (y 4, gN g 256 (fun _ => 0))]) C hinX4 0 rfl rfl 3 (by decide) (by decide +kernel) rfl tyX4 tyX4_ok nmX4 rfl hin0 rfl (by decide +kernel) rfl rfl (Nat.le_of_ble_eq_true rfl) rfl dX4_init_45 ?_
  refine g_aload_n C dX4_init_48 rfl 0 rfl ?_
  refine g_new (ci := 3) (fs := [.null, .null, .null, .null, .null, .null, .null, .int 0, .int 0]) C hinX2 tyX2 tyX2_ok (by decide +kernel) (by decide +kernel) (by decide +kernel) rfl (fun j hj => match j, hj with | 0, _ => rfl | 1, _ => rfl | 2, _ => rfl | 3, _ => rfl | 4, _ => rfl | 5, _ => rfl | 6, _ => rfl | 7, _ => rfl | 8, _ => rfl | j + 9, h => absurd h (by omega)) (Nat.le_of_ble_eq_true rfl) (Nat.le_of_ble_eq_true rfl) dX4_init_49 (fun q49 => ?_)
  refine g_w (w2 := [(b, .inr (5, [.ref (z 0), .ref (o 0), .ref (h 0), .ref (y 0), .null])), (z 0, .inr (2, [.ref (z 1), .ref (z 2), .ref (z 3), .ref (z 4), .ref (z 5), .ref (z 6), .int 0])), (z 1, gZ g 256 (fun _ => false)), (z 2, gJ g 256 (fun _ => 0)), (z 3, gZ g 4 (va_up (va_up (va_up (va_up (fun _ => false) 0 true) 1 true) 2 true) 3 true)), (z 4, gI g 512 (fun _ => 0)), (z 5, gI g 64 (fun _ => 0)), (z 6, gI g 64 (fun _ => 0)), (o 0, .inr (2, [.ref (o 1), .ref (o 2), .ref (o 3), .ref (o 4), .ref (o 5), .ref (o 6), .int 0])), (o 1, gZ g 256 (fun _ => false)), (o 2, gJ g 256 (fun _ => 0)), (o 3, gZ g 4 (va_up (va_up (va_up (va_up (fun _ => false) 0 true) 1 true) 2 true) 3 true)), (o 4, gI g 512 (fun _ => 0)), (o 5, gI g 64 (fun _ => 0)), (o 6, gI g 64 (fun _ => 0)), (h 0, .inr (1, [.ref (h 1), .ref (h 2), .int (nI 0)])), (h 1, gI g 8 (fun _ => 0)), (h 2, gI g 64 (fun _ => 0)), (y 0, .inr (4, [.ref (y 1), .ref (y 2), .ref (y 3), .ref (y 4), .int (nI 0), .int (nI 0), .int (nI 0), .int (-1)])), (y 1, gN g 32 (fun _ => 0)), (y 2, gN g 32 (fun _ => 0)), (y 3, gI g 256 (fun _ => 0)), (y 4, gN g 256 (fun _ => 0)), (q49, .inr (3, [.null, .null, .null, .null, .null, .null, .null, .int 0, .int 0]))]) rfl ?_
  refine g_dup C dX4_init_52 rfl ?_
  refine g_callI (wr := [(b, .inr (5, [.ref (z 0), .ref (o 0), .ref (h 0), .ref (y 0), .null])), (z 0, .inr (2, [.ref (z 1), .ref (z 2), .ref (z 3), .ref (z 4), .ref (z 5), .ref (z 6), .int 0])), (z 1, gZ g 256 (fun _ => false)), (z 2, gJ g 256 (fun _ => 0)), (z 3, gZ g 4 (va_up (va_up (va_up (va_up (fun _ => false) 0 true) 1 true) 2 true) 3 true)), (z 4, gI g 512 (fun _ => 0)), (z 5, gI g 64 (fun _ => 0)), (z 6, gI g 64 (fun _ => 0)), (o 0, .inr (2, [.ref (o 1), .ref (o 2), .ref (o 3), .ref (o 4), .ref (o 5), .ref (o 6), .int 0])), (o 1, gZ g 256 (fun _ => false)), (o 2, gJ g 256 (fun _ => 0)), (o 3, gZ g 4 (va_up (va_up (va_up (va_up (fun _ => false) 0 true) 1 true) 2 true) 3 true)), (o 4, gI g 512 (fun _ => 0)), (o 5, gI g 64 (fun _ => 0)), (o 6, gI g 64 (fun _ => 0)), (h 0, .inr (1, [.ref (h 1), .ref (h 2), .int (nI 0)])), (h 1, gI g 8 (fun _ => 0)), (h 2, gI g 64 (fun _ => 0)), (y 0, .inr (4, [.ref (y 1), .ref (y 2), .ref (y 3), .ref (y 4), .int (nI 0), .int (nI 0), .int (nI 0), .int (-1)])), (y 1, gN g 32 (fun _ => 0)), (y 2, gN g 32 (fun _ => 0)), (y 3, gI g 256 (fun _ => 0)), (y 4, gN g 256 (fun _ => 0))]) C (c_X2_init l g q49) (cwI 0 C.2.2.2.2.1 gX4_init_X2_init rfl rfl rfl (C.2.2.2.2.1 _ (by decide +kernel)) (C.2.2.2.2.1 _ (by decide +kernel)) (C.2.2.2.2.1 _ (by decide +kernel)) rfl (by decide +kernel) ⟨(Nat.le_of_ble_eq_true rfl), (Nat.le_of_ble_eq_true rfl)⟩) [23] [0, 1, 2, 3, 4, 5, 6, 7, 8, 9, 10, 11, 12, 13, 14, 15, 16, 17, 18, 19, 20, 21, 22] rfl rfl rfl rfl rfl (by decide) rfl rfl (Nat.le_of_ble_eq_true rfl) dX4_init_53 ⟨(Nat.le_of_ble_eq_true rfl), (Nat.le_of_ble_eq_true rfl)⟩ ?_
  rintro _ _ ⟨rfl, t, hzt, rfl⟩
  subst hzt
  refine g_st (st2 := [.ref (t 0), .ref b]) rfl ?_
  refine g_w (w2 := [(b, .inr (5, [.ref (z 0), .ref (o 0), .ref (h 0), .ref (y 0), .null])), (z 0, .inr (2, [.ref (z 1), .ref (z 2), .ref (z 3), .ref (z 4), .ref (z 5), .ref (z 6), .int 0])), (z 1, gZ g 256 (fun _ => false)), (z 2, gJ g 256 (fun _ => 0)), (z 3, gZ g 4 (va_up (va_up (va_up (va_up (fun _ => false) 0 true) 1 true) 2 true) 3 true)), (z 4, gI g 512 (fun _ => 0)), (z 5, gI g 64 (fun _ => 0)), (z 6, gI g 64 (fun _ => 0)), (o 0, .inr (2, [.ref (o 1), .ref (o 2), .ref (o 3), .ref (o 4), .ref (o 5), .ref (o 6), .int 0])), (o 1, gZ g 256 (fun _ => false)), (o 2, gJ g 256 (fun _ => 0)), (o 3, gZ g 4 (va_up (va_up (va_up (va_up (fun _ => false) 0 true) 1 true) 2 true) 3 true)), (o 4, gI g 512 (fun _ => 0)), (o 5, gI g 64 (fun _ => 0)), (o 6, gI g 64 (fun _ => 0)), (h 0, .inr (1, [.ref (h 1), .ref (h 2), .int (nI 0)])), (h 1, gI g 8 (fun _ => 0)), (h 2, gI g 64 (fun _ => 0)), (y 0, .inr (4, [.ref (y 1), .ref (y 2), .ref (y 3), .ref (y 4), .int (nI 0), .int (nI 0), .int (nI 0), .int (-1)])), (y 1, gN g 32 (fun _ => 0)), (y 2, gN g 32 (fun _ => 0)), (y 3, gI g 256 (fun _ => 0)), (y 4, gN g 256 (fun _ => 0)), (t 0, .inr (3, [.ref (t 1), .ref (t 2), .ref (t 3), .ref (t 4), .ref (t 5), .ref (t 6), .ref (t 7), .int (nI 2), .int (nI 0)])), (t 1, gI g 63 (fun _ => 0)), (t 2, gI g 63 (fun _ => 0)), (t 3, gJ g 63 (fun _ => 0)), (t 4, gI g 63 (fun _ => 0)), (t 5, gI g 256 (fun _ => 0)), (t 6, gN g 256 (fun _ => 0)), (t 7, gJ g 256 (fun _ => 0))]) rfl ?_
  refine g_putF (ty := .object "DigestTrees$Table") (w2 := [(b, .inr (5, [.ref (z 0), .ref (o 0), .ref (h 0), .ref (y 0), .ref (t 0)])), (z 0, .inr (2, [.ref (z 1), .ref (z 2), .ref (z 3), .ref (z 4), .ref (z 5), .ref (z 6), .int 0])), (z 1, gZ g 256 (fun _ => false)), (z 2, gJ g 256 (fun _ => 0)), (z 3, gZ g 4 (va_up (va_up (va_up (va_up (fun _ => false) 0 true) 1 true) 2 true) 3 true)), (z 4, gI g 512 (fun _ => 0)), (z 5, gI g 64 (fun _ => 0)), (z 6, gI g 64 (fun _ => 0)), (o 0, .inr (2, [.ref (o 1), .ref (o 2), .ref (o 3), .ref (o 4), .ref (o 5), .ref (o 6), .int 0])), (o 1, gZ g 256 (fun _ => false)), (o 2, gJ g 256 (fun _ => 0)), (o 3, gZ g 4 (va_up (va_up (va_up (va_up (fun _ => false) 0 true) 1 true) 2 true) 3 true)), (o 4, gI g 512 (fun _ => 0)), (o 5, gI g 64 (fun _ => 0)), (o 6, gI g 64 (fun _ => 0)), (h 0, .inr (1, [.ref (h 1), .ref (h 2), .int (nI 0)])), (h 1, gI g 8 (fun _ => 0)), (h 2, gI g 64 (fun _ => 0)), (y 0, .inr (4, [.ref (y 1), .ref (y 2), .ref (y 3), .ref (y 4), .int (nI 0), .int (nI 0), .int (nI 0), .int (-1)])), (y 1, gN g 32 (fun _ => 0)), (y 2, gN g 32 (fun _ => 0)), (y 3, gI g 256 (fun _ => 0)), (y 4, gN g 256 (fun _ => 0)), (t 0, .inr (3, [.ref (t 1), .ref (t 2), .ref (t 3), .ref (t 4), .ref (t 5), .ref (t 6), .ref (t 7), .int (nI 2), .int (nI 0)])), (t 1, gI g 63 (fun _ => 0)), (t 2, gI g 63 (fun _ => 0)), (t 3, gJ g 63 (fun _ => 0)), (t 4, gI g 63 (fun _ => 0)), (t 5, gI g 256 (fun _ => 0)), (t 6, gN g 256 (fun _ => 0)), (t 7, gJ g 256 (fun _ => 0))]) C hinX4 0 rfl rfl 4 (by decide) (by decide +kernel) rfl tyX4 tyX4_ok nmX4 rfl hin0 rfl (by decide +kernel) rfl rfl (Nat.le_of_ble_eq_true rfl) rfl dX4_init_56 ?_
  refine g_vret C dX4_init_59 (by decide) (by decide) ?_
  exact ⟨rfl, z, o, h, y, t, rfl⟩
