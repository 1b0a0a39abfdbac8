set_option maxHeartbeats 4000000 in
set_option maxRecDepth 100000 in
theorem c_X4_isSide (l : Launch) (g : gE) (x : Int32) : Kt l g yX4_isSide wsX4_isSide 0 0 0 0 [.int x] [] (kR (some (.int (bI (inR x 0 (nI 2))))) []) := by
  refine g_enter (cc := cX4_isSide) (maxL := 1) (ret := (some .boolean)) (own := RX4) (L := [(0, .int x)]) (by decide) rfl rfl (Nat.le_of_ble_eq_true rfl) rfl ?_
  intro p e s m args below meth c hin0 C
  refine g_iload_n C dX4_isSide_0 rfl 0 rfl ?_
  refine g_if_lt (tgt := 13) C dX4_isSide_1 (by decide) (fun c1 => ?_) (fun c1 => ?_)
  · skip
    refine g_iconst (v := nI 0) C dX4_isSide_13 (by decide) ?_
    refine g_st (st2 := [.int (bI false)]) rfl ?_
    refine g_zret C dX4_isSide_14 (by decide) (by decide) ?_
    refine ⟨congrArg (fun b => some (Value.int (bI b))) ?_, rfl⟩
    first | (simp [inR, c1, c6]; done) | (simp [inR, c1]; done)
  · skip
    refine g_iload_n C dX4_isSide_4 rfl 0 rfl ?_
    refine g_iconst (v := nI 2) C dX4_isSide_5 (by decide) ?_
    refine g_icmp_ge (tgt := 13) C dX4_isSide_6 (by decide) (fun c6 => ?_) (fun c6 => ?_)
    · skip
      refine g_iconst (v := nI 0) C dX4_isSide_13 (by decide) ?_
      refine g_st (st2 := [.int (bI false)]) rfl ?_
      refine g_zret C dX4_isSide_14 (by decide) (by decide) ?_
      refine ⟨congrArg (fun b => some (Value.int (bI b))) ?_, rfl⟩
      first | (simp [inR, c1, c6]; done) | (simp [inR, c1]; done)
    · skip
      refine g_iconst (v := nI 1) C dX4_isSide_9 (by decide) ?_
      refine g_goto (tgt := 14) C dX4_isSide_10 (by decide) ?_
      refine g_st (st2 := [.int (bI true)]) rfl ?_
      refine g_zret C dX4_isSide_14 (by decide) (by decide) ?_
      refine ⟨congrArg (fun b => some (Value.int (bI b))) ?_, rfl⟩
      first | (simp [inR, c1, c6]; done) | (simp [inR, c1]; done)
set_option maxHeartbeats 4000000 in
set_option maxRecDepth 100000 in
theorem c_X4_isNode (l : Launch) (g : gE) (x : Int32) : Kt l g yX4_isNode wsX4_isNode 0 0 0 0 [.int x] [] (kR (some (.int (bI (inR x 0 (nI 4))))) []) := by
  refine g_enter (cc := cX4_isNode) (maxL := 1) (ret := (some .boolean)) (own := RX4) (L := [(0, .int x)]) (by decide) rfl rfl (Nat.le_of_ble_eq_true rfl) rfl ?_
  intro p e s m args below meth c hin0 C
  refine g_iload_n C dX4_isNode_0 rfl 0 rfl ?_
  refine g_if_lt (tgt := 13) C dX4_isNode_1 (by decide) (fun c1 => ?_) (fun c1 => ?_)
  · skip
    refine g_iconst (v := nI 0) C dX4_isNode_13 (by decide) ?_
    refine g_st (st2 := [.int (bI false)]) rfl ?_
    refine g_zret C dX4_isNode_14 (by decide) (by decide) ?_
    refine ⟨congrArg (fun b => some (Value.int (bI b))) ?_, rfl⟩
    first | (simp [inR, c1, c6]; done) | (simp [inR, c1]; done)
  · skip
    refine g_iload_n C dX4_isNode_4 rfl 0 rfl ?_
    refine g_iconst (v := nI 4) C dX4_isNode_5 (by decide) ?_
    refine g_icmp_ge (tgt := 13) C dX4_isNode_6 (by decide) (fun c6 => ?_) (fun c6 => ?_)
    · skip
      refine g_iconst (v := nI 0) C dX4_isNode_13 (by decide) ?_
      refine g_st (st2 := [.int (bI false)]) rfl ?_
      refine g_zret C dX4_isNode_14 (by decide) (by decide) ?_
      refine ⟨congrArg (fun b => some (Value.int (bI b))) ?_, rfl⟩
      first | (simp [inR, c1, c6]; done) | (simp [inR, c1]; done)
    · skip
      refine g_iconst (v := nI 1) C dX4_isNode_9 (by decide) ?_
      refine g_goto (tgt := 14) C dX4_isNode_10 (by decide) ?_
      refine g_st (st2 := [.int (bI true)]) rfl ?_
      refine g_zret C dX4_isNode_14 (by decide) (by decide) ?_
      refine ⟨congrArg (fun b => some (Value.int (bI b))) ?_, rfl⟩
      first | (simp [inR, c1, c6]; done) | (simp [inR, c1]; done)
set_option maxHeartbeats 4000000 in
set_option maxRecDepth 100000 in
theorem c_X4_isRange (l : Launch) (g : gE) (x : Int32) : Kt l g yX4_isRange wsX4_isRange 0 0 0 0 [.int x] [] (kR (some (.int (bI (inR x (nI 1) (nI 64))))) []) := by
  refine g_enter (cc := cX4_isRange) (maxL := 1) (ret := (some .boolean)) (own := RX4) (L := [(0, .int x)]) (by decide) rfl rfl (Nat.le_of_ble_eq_true rfl) rfl ?_
  intro p e s m args below meth c hin0 C
  refine g_iload_n C dX4_isRange_0 rfl 0 rfl ?_
  refine g_iconst (v := nI 1) C dX4_isRange_1 (by decide) ?_
  refine g_icmp_lt (tgt := 15) C dX4_isRange_2 (by decide) (fun c2 => ?_) (fun c2 => ?_)
  · skip
    refine g_iconst (v := nI 0) C dX4_isRange_15 (by decide) ?_
    refine g_st (st2 := [.int (bI false)]) rfl ?_
    refine g_zret C dX4_isRange_16 (by decide) (by decide) ?_
    refine ⟨congrArg (fun b => some (Value.int (bI b))) ?_, rfl⟩
    first | (simp [inR, c2, c8]; done) | (simp [inR, c2]; done)
  · skip
    refine g_iload_n C dX4_isRange_5 rfl 0 rfl ?_
    refine g_bipush (v := nI 64) C dX4_isRange_6 (by decide) ?_
    refine g_icmp_ge (tgt := 15) C dX4_isRange_8 (by decide) (fun c8 => ?_) (fun c8 => ?_)
    · skip
      refine g_iconst (v := nI 0) C dX4_isRange_15 (by decide) ?_
      refine g_st (st2 := [.int (bI false)]) rfl ?_
      refine g_zret C dX4_isRange_16 (by decide) (by decide) ?_
      refine ⟨congrArg (fun b => some (Value.int (bI b))) ?_, rfl⟩
      first | (simp [inR, c2, c8]; done) | (simp [inR, c2]; done)
    · skip
      refine g_iconst (v := nI 1) C dX4_isRange_11 (by decide) ?_
      refine g_goto (tgt := 16) C dX4_isRange_12 (by decide) ?_
      refine g_st (st2 := [.int (bI true)]) rfl ?_
      refine g_zret C dX4_isRange_16 (by decide) (by decide) ?_
      refine ⟨congrArg (fun b => some (Value.int (bI b))) ?_, rfl⟩
      first | (simp [inR, c2, c8]; done) | (simp [inR, c2]; done)
set_option maxHeartbeats 4000000 in
set_option maxRecDepth 100000 in
theorem c_X4_slotOf (l : Launch) (g : gE) (x y z : Int32) : Kt l g yX4_slotOf wsX4_slotOf 1 20 0 0 [.int x, .int y, .int z] [] (kR (some (.int (m_slot x y z))) []) := by
  refine g_enter (cc := cX4_slotOf) (maxL := 3) (ret := (some .int)) (own := RX4) (L := [(0, .int x), (1, .int y), (2, .int z)]) (by decide) rfl rfl (Nat.le_of_ble_eq_true rfl) rfl ?_
  intro p e s m args below meth c hin0 C
  refine g_iload_n C dX4_slotOf_0 rfl 0 rfl ?_
  refine g_callS1 (wr := []) (w2 := []) C (c_X4_isSide l g x) (va_cwS 1 C.2.2.2.2.1 gX4_slotOf_X4_isSide rfl rfl rfl (by decide +kernel) ⟨Nat.le_of_ble_eq_true rfl, Nat.le_of_ble_eq_true rfl⟩) [] [] rfl rfl rfl rfl rfl (by decide) rfl rfl (Nat.le_of_ble_eq_true rfl) dX4_slotOf_1 ⟨Nat.le_of_ble_eq_true rfl, Nat.le_of_ble_eq_true rfl⟩ rfl ?_
  refine g_if_eq_b (tgt := 25) C dX4_slotOf_4 (by decide) (fun c4 => ?_) (fun c4 => ?_)
  · skip
    refine g_iconst (v := (-1)) C dX4_slotOf_25 (by decide) ?_
    refine g_iret C dX4_slotOf_26 (by decide) (by decide) ?_
    refine ⟨congrArg (fun b => some (Value.int b)) ?_, rfl⟩
    first | (simp [m_slot, c4, c11, c16, c22]; done) | (simp [m_slot, c4, c11, c16]; done) | (simp [m_slot, c4, c11]; done) | (simp [m_slot, c4]; done)
  · skip
    refine g_iload_n C dX4_slotOf_7 rfl 1 rfl ?_
    refine g_callS1 (wr := []) (w2 := []) C (c_X4_isNode l g y) (va_cwS 1 C.2.2.2.2.1 gX4_slotOf_X4_isNode rfl rfl rfl (by decide +kernel) ⟨Nat.le_of_ble_eq_true rfl, Nat.le_of_ble_eq_true rfl⟩) [] [] rfl rfl rfl rfl rfl (by decide) rfl rfl (Nat.le_of_ble_eq_true rfl) dX4_slotOf_8 ⟨Nat.le_of_ble_eq_true rfl, Nat.le_of_ble_eq_true rfl⟩ rfl ?_
    refine g_if_eq_b (tgt := 25) C dX4_slotOf_11 (by decide) (fun c11 => ?_) (fun c11 => ?_)
    · skip
      refine g_iconst (v := (-1)) C dX4_slotOf_25 (by decide) ?_
      refine g_iret C dX4_slotOf_26 (by decide) (by decide) ?_
      refine ⟨congrArg (fun b => some (Value.int b)) ?_, rfl⟩
      first | (simp [m_slot, c4, c11, c16, c22]; done) | (simp [m_slot, c4, c11, c16]; done) | (simp [m_slot, c4, c11]; done) | (simp [m_slot, c4]; done)
    · skip
      refine g_iload_n C dX4_slotOf_14 rfl 2 rfl ?_
      refine g_iconst (v := nI 1) C dX4_slotOf_15 (by decide) ?_
      refine g_icmp_lt (tgt := 25) C dX4_slotOf_16 (by decide) (fun c16 => ?_) (fun c16 => ?_)
      · skip
        refine g_iconst (v := (-1)) C dX4_slotOf_25 (by decide) ?_
        refine g_iret C dX4_slotOf_26 (by decide) (by decide) ?_
        refine ⟨congrArg (fun b => some (Value.int b)) ?_, rfl⟩
        first | (simp [m_slot, c4, c11, c16, c22]; done) | (simp [m_slot, c4, c11, c16]; done) | (simp [m_slot, c4, c11]; done) | (simp [m_slot, c4]; done)
      · skip
        refine g_iload_n C dX4_slotOf_19 rfl 2 rfl ?_
        refine g_bipush (v := nI 64) C dX4_slotOf_20 (by decide) ?_
        refine g_icmp_le (tgt := 27) C dX4_slotOf_22 (by decide) (fun c22 => ?_) (fun c22 => ?_)
        · skip
          refine g_bipush (v := nI 64) C dX4_slotOf_27 (by decide) ?_
          refine g_iload_n C dX4_slotOf_29 rfl 1 rfl ?_
          refine g_imul C dX4_slotOf_30 ?_
          refine g_iload_n C dX4_slotOf_31 rfl 2 rfl ?_
          refine g_iadd C dX4_slotOf_32 ?_
          refine g_iconst (v := nI 1) C dX4_slotOf_33 (by decide) ?_
          refine g_isub C dX4_slotOf_34 ?_
          refine g_iret C dX4_slotOf_35 (by decide) (by decide) ?_
          refine ⟨congrArg (fun b => some (Value.int b)) ?_, rfl⟩
          first | (simp [m_slot, c4, c11, c16, c22]; done) | (simp [m_slot, c4, c11, c16]; done) | (simp [m_slot, c4, c11]; done) | (simp [m_slot, c4]; done)
        · skip
          refine g_iconst (v := (-1)) C dX4_slotOf_25 (by decide) ?_
          refine g_iret C dX4_slotOf_26 (by decide) (by decide) ?_
          refine ⟨congrArg (fun b => some (Value.int b)) ?_, rfl⟩
          first | (simp [m_slot, c4, c11, c16, c22]; done) | (simp [m_slot, c4, c11, c16]; done) | (simp [m_slot, c4, c11]; done) | (simp [m_slot, c4]; done)
set_option maxHeartbeats 4000000 in
set_option maxRecDepth 100000 in
theorem c_X4_nodeOf (l : Launch) (g : gE) (k : Nat) (hk : k < 2 ^ 30) : Kt l g yX4_nodeOf wsX4_nodeOf 0 0 0 0 [.int (nI k)] [] (kR (some (.int (nI (k / 64)))) []) := by
  refine g_enter (cc := cX4_nodeOf) (maxL := 1) (ret := (some .int)) (own := RX4) (L := [(0, .int (nI k))]) (by decide) rfl rfl (Nat.le_of_ble_eq_true rfl) rfl ?_
  intro p e s m args below meth c hin0 C
  refine g_iload_n C dX4_nodeOf_0 rfl 0 rfl ?_
  refine g_bipush (v := nI 64) C dX4_nodeOf_1 (by decide) ?_
  refine g_idiv_n C dX4_nodeOf_3 (by omega) (by omega) (by omega) ?_
  refine g_iret C dX4_nodeOf_4 (by decide) (by decide) ?_
  exact ⟨rfl, rfl⟩
set_option maxHeartbeats 4000000 in
set_option maxRecDepth 100000 in
theorem c_X4_numberOf (l : Launch) (g : gE) (k : Nat) (hk : k < 2 ^ 30) : Kt l g yX4_numberOf wsX4_numberOf 0 0 0 0 [.int (nI k)] [] (kR (some (.int (nI (k % 64 + 1)))) []) := by
  refine g_enter (cc := cX4_numberOf) (maxL := 1) (ret := (some .int)) (own := RX4) (L := [(0, .int (nI k))]) (by decide) rfl rfl (Nat.le_of_ble_eq_true rfl) rfl ?_
  intro p e s m args below meth c hin0 C
  refine g_iload_n C dX4_numberOf_0 rfl 0 rfl ?_
  refine g_bipush (v := nI 64) C dX4_numberOf_1 (by decide) ?_
  refine g_irem_n C dX4_numberOf_3 (by omega) (by omega) (by omega) ?_
  refine g_iconst (v := nI 1) C dX4_numberOf_4 (by decide) ?_
  refine g_iadd_n C dX4_numberOf_5 ?_
  refine g_iret C dX4_numberOf_6 (by decide) (by decide) ?_
  exact ⟨rfl, rfl⟩
set_option maxHeartbeats 4000000 in
set_option maxRecDepth 100000 in
theorem c_X4_leafOf (l : Launch) (g : gE) (k : Nat) (hk : k < 2 ^ 30) : Kt l g yX4_leafOf wsX4_leafOf 0 0 0 0 [.int (nI k)] [] (kR (some (.int (nI (32 + k / 8)))) []) := by
  refine g_enter (cc := cX4_leafOf) (maxL := 1) (ret := (some .int)) (own := RX4) (L := [(0, .int (nI k))]) (by decide) rfl rfl (Nat.le_of_ble_eq_true rfl) rfl ?_
  intro p e s m args below meth c hin0 C
  refine g_bipush (v := nI 32) C dX4_leafOf_0 (by decide) ?_
  refine g_iload_n C dX4_leafOf_2 rfl 0 rfl ?_
  refine g_bipush (v := nI 8) C dX4_leafOf_3 (by decide) ?_
  refine g_idiv_n C dX4_leafOf_5 (by omega) (by omega) (by omega) ?_
  refine g_iadd_n C dX4_leafOf_6 ?_
  refine g_iret C dX4_leafOf_7 (by decide) (by decide) ?_
  exact ⟨rfl, rfl⟩
set_option maxHeartbeats 4000000 in
set_option maxRecDepth 100000 in
theorem c_X4_firstSlotOf (l : Launch) (g : gE) (k : Nat) (hk : 32 ≤ k) (hk2 : k < 2 ^ 20) : Kt l g yX4_firstSlotOf wsX4_firstSlotOf 0 0 0 0 [.int (nI k)] [] (kR (some (.int (nI (8 * (k - 32))))) []) := by
  refine g_enter (cc := cX4_firstSlotOf) (maxL := 1) (ret := (some .int)) (own := RX4) (L := [(0, .int (nI k))]) (by decide) rfl rfl (Nat.le_of_ble_eq_true rfl) rfl ?_
  intro p e s m args below meth c hin0 C
  refine g_bipush (v := nI 8) C dX4_firstSlotOf_0 (by decide) ?_
  refine g_iload_n C dX4_firstSlotOf_2 rfl 0 rfl ?_
  refine g_bipush (v := nI 32) C dX4_firstSlotOf_3 (by decide) ?_
  refine g_isub_n C dX4_firstSlotOf_5 (by omega) ?_
  refine g_imul_n C dX4_firstSlotOf_6 ?_
  refine g_iret C dX4_firstSlotOf_7 (by decide) (by decide) ?_
  exact ⟨rfl, rfl⟩
set_option maxHeartbeats 4000000 in
set_option maxRecDepth 100000 in
theorem c_X4_mix (l : Launch) (g : gE) (x : Int32) (v : Int64) (n : Nat) (hn : n ≤ 8) : Kt l g yX4_mix wsX4_mix 1 21 0 0 [.int x, .long v, .int (nI n)] [] (kR (some (.int (mixL v n x))) []) := by
  refine g_enter (cc := cX4_mix) (maxL := 7) (ret := (some .int)) (own := RX4) (L := [(0, .int x), (1, .long v), (3, .int (nI n))]) (by decide) rfl rfl (Nat.le_of_ble_eq_true rfl) rfl ?_
  intro p e s m args below meth c hin0 C
  refine g_iload_n C dX4_mix_0 rfl 0 rfl ?_
  refine g_istore (L' := [(4, .int x), (0, .int x), (1, .long v), (3, .int (nI n))]) C dX4_mix_1 (by decide) rfl ?_
  refine g_iload_n C dX4_mix_3 rfl 3 rfl ?_
  refine g_iconst (v := nI 1) C dX4_mix_4 (by decide) ?_
  refine g_isub C dX4_mix_5 ?_
  refine g_istore (L' := [(5, .int ((nI n) - (nI 1))), (4, .int x), (0, .int x), (1, .long v), (3, .int (nI n))]) C dX4_mix_6 (by decide) rfl ?_
  refine g_L (L2 := [(0, .int x), (1, .long v), (3, .int (nI n)), (4, .int x), (5, .int ((nI n) - (nI 1)))]) [2, 3, 4, 1, 0] rfl ?_
  refine g_up n 0 (fun _ => True) (fun j => [(0, .int x), (1, .long v), (3, .int (nI n)), (4, .int (it (mixS v n) x j)), (5, .int (nI (n - j) - 1))]) (fun j => []) (by omega) (trivial) ?_ ?_
  · intro hPj
    try dsimp only
    rw [show nI (n - n) - 1 = (-1 : Int32) by rw [Nat.sub_self]; decide]
    refine g_iload C dX4_mix_8 4 rfl ?_
    refine g_if_lt (tgt := 48) C dX4_mix_10 (by decide) (fun c10 => ?_) (fun c10 => ?_)
    · skip
      refine g_iload C dX4_mix_48 3 rfl ?_
      refine g_iret C dX4_mix_50 (by decide) (by decide) ?_
      exact ⟨rfl, rfl⟩
    · skip
      exact absurd (by decide) c10
  · intro j hlj huj hPj ihj
    try dsimp only at ihj ⊢
    rw [nI_dec huj]
    refine g_iload C dX4_mix_8 4 rfl ?_
    refine g_if_lt_n (tgt := 48) C dX4_mix_10 (by decide) (by omega) ?_
    refine g_lload_n C dX4_mix_13 rfl 1 rfl ?_
    refine g_bipush (v := nI 8) C dX4_mix_14 (by decide) ?_
    refine g_iload C dX4_mix_16 4 rfl ?_
    refine g_imul_n C dX4_mix_18 ?_
    refine g_lushr C dX4_mix_19 ?_
    refine g_l2i C dX4_mix_20 ?_
    refine g_sipush (v := nI 255) C dX4_mix_21 (by decide) ?_
    refine g_iand C dX4_mix_24 ?_
    refine g_istore (L' := [(6, .int ((Int64.toInt32 ((Int64.toUInt64 v >>> ((Int32.toInt64 (nI (8 * (n - j - 1)))).toUInt64 &&& Int64.toUInt64 63)).toInt64)) &&& (nI 255))), (0, .int x), (1, .long v), (3, .int (nI n)), (4, .int (it (mixS v n) x j)), (5, .int (nI (n - j - 1)))]) C dX4_mix_25 (by decide) rfl ?_
    refine g_iload C dX4_mix_27 4 rfl ?_
    refine g_iload C dX4_mix_29 0 rfl ?_
    refine g_ixor C dX4_mix_31 ?_
    refine g_bipush (v := nI 7) C dX4_mix_32 (by decide) ?_
    refine g_callS1 (wr := []) (w2 := []) C (c_J6_rotateLeft_7cf53 l g ((it (mixS v n) x j) ^^^ ((Int64.toInt32 ((Int64.toUInt64 v >>> ((Int32.toInt64 (nI (8 * (n - j - 1)))).toUInt64 &&& Int64.toUInt64 63)).toInt64)) &&& (nI 255))) (nI 7)) (va_cwS 2 C.2.2.2.2.1 gX4_mix_J6_rotateLeft_7cf53 rfl rfl rfl (by decide +kernel) ⟨Nat.le_of_ble_eq_true rfl, Nat.le_of_ble_eq_true rfl⟩) [] [] rfl rfl rfl rfl rfl (by decide) rfl rfl (Nat.le_of_ble_eq_true rfl) dX4_mix_34 ⟨Nat.le_of_ble_eq_true rfl, Nat.le_of_ble_eq_true rfl⟩ rfl ?_
    refine g_ldc (v := 668265263) C (by decide +kernel) dX4_mix_37 ?_
    refine g_imul C dX4_mix_39 ?_
    refine g_istore (L' := [(4, .int ((rl ((it (mixS v n) x j) ^^^ ((Int64.toInt32 ((Int64.toUInt64 v >>> ((Int32.toInt64 (nI (8 * (n - j - 1)))).toUInt64 &&& Int64.toUInt64 63)).toInt64)) &&& (nI 255))) (nI 7)) * (668265263 : Int32))), (6, .int ((Int64.toInt32 ((Int64.toUInt64 v >>> ((Int32.toInt64 (nI (8 * (n - j - 1)))).toUInt64 &&& Int64.toUInt64 63)).toInt64)) &&& (nI 255))), (0, .int x), (1, .long v), (3, .int (nI n)), (5, .int (nI (n - j - 1)))]) C dX4_mix_40 (by decide) rfl ?_
    refine g_iinc (v := (nI (n - j - 1)) - 1) (L' := [(5, .int ((nI (n - j - 1)) - 1)), (4, .int ((rl ((it (mixS v n) x j) ^^^ ((Int64.toInt32 ((Int64.toUInt64 v >>> ((Int32.toInt64 (nI (8 * (n - j - 1)))).toUInt64 &&& Int64.toUInt64 63)).toInt64)) &&& (nI 255))) (nI 7)) * (668265263 : Int32))), (6, .int ((Int64.toInt32 ((Int64.toUInt64 v >>> ((Int32.toInt64 (nI (8 * (n - j - 1)))).toUInt64 &&& Int64.toUInt64 63)).toInt64)) &&& (nI 255))), (0, .int x), (1, .long v), (3, .int (nI n))]) C dX4_mix_42 5 rfl (by rw [Int32.sub_eq_add_neg]; rfl) (by decide) rfl ?_
    refine g_goto (tgt := 8) C dX4_mix_45 (by decide) ?_
    refine g_L (L2 := [(0, .int x), (1, .long v), (3, .int (nI n)), (4, .int ((rl ((it (mixS v n) x j) ^^^ ((Int64.toInt32 ((Int64.toUInt64 v >>> ((Int32.toInt64 (nI (8 * (n - j - 1)))).toUInt64 &&& Int64.toUInt64 63)).toInt64)) &&& (nI 255))) (nI 7)) * (668265263 : Int32))), (5, .int ((nI (n - j - 1)) - 1))]) [3, 4, 5, 1, 0] rfl ?_
    exact ihj (trivial)
set_option maxHeartbeats 4000000 in
set_option maxRecDepth 100000 in
theorem c_X4_mixRow (l : Launch) (g : gE) (x : Int32) (k : Nat) (v : Int64) (hk : k < 2 ^ 30) : Kt l g yX4_mixRow wsX4_mixRow 2 47 0 0 [.int x, .int (nI k), .long v] [] (kR (some (.int (mixR x k v))) []) := by
  refine g_enter (cc := cX4_mixRow) (maxL := 4) (ret := (some .int)) (own := RX4) (L := [(0, .int x), (1, .int (nI k)), (2, .long v)]) (by decide) rfl rfl (Nat.le_of_ble_eq_true rfl) rfl ?_
  intro p e s m args below meth c hin0 C
  refine g_iload_n C dX4_mixRow_0 rfl 0 rfl ?_
  refine g_iload_n C dX4_mixRow_1 rfl 1 rfl ?_
  refine g_callS1 (wr := []) (w2 := []) C (c_X4_nodeOf l g k (by omega)) (va_cwS 1 C.2.2.2.2.1 gX4_mixRow_X4_nodeOf rfl rfl rfl (by decide +kernel) ⟨Nat.le_of_ble_eq_true rfl, Nat.le_of_ble_eq_true rfl⟩) [] [] rfl rfl rfl rfl rfl (by decide) rfl rfl (Nat.le_of_ble_eq_true rfl) dX4_mixRow_2 ⟨Nat.le_of_ble_eq_true rfl, Nat.le_of_ble_eq_true rfl⟩ rfl ?_
  refine g_i2l C dX4_mixRow_5 ?_
  refine g_iconst (v := nI 1) C dX4_mixRow_6 (by decide) ?_
  refine g_callS1 (wr := []) (w2 := []) C (c_X4_mix l g x (Int32.toInt64 (nI (k / 64))) 1 (by omega)) (va_cwS 3 C.2.2.2.2.1 gX4_mixRow_X4_mix rfl rfl rfl (by decide +kernel) ⟨Nat.le_of_ble_eq_true rfl, Nat.le_of_ble_eq_true rfl⟩) [] [] rfl rfl rfl rfl rfl (by decide) rfl rfl (Nat.le_of_ble_eq_true rfl) dX4_mixRow_7 ⟨Nat.le_of_ble_eq_true rfl, Nat.le_of_ble_eq_true rfl⟩ rfl ?_
  refine g_iload_n C dX4_mixRow_10 rfl 1 rfl ?_
  refine g_callS1 (wr := []) (w2 := []) C (c_X4_numberOf l g k (by omega)) (va_cwS 1 C.2.2.2.2.1 gX4_mixRow_X4_numberOf rfl rfl rfl (by decide +kernel) ⟨Nat.le_of_ble_eq_true rfl, Nat.le_of_ble_eq_true rfl⟩) [] [] rfl rfl rfl rfl rfl (by decide) rfl rfl (Nat.le_of_ble_eq_true rfl) dX4_mixRow_11 ⟨Nat.le_of_ble_eq_true rfl, Nat.le_of_ble_eq_true rfl⟩ rfl ?_
  refine g_i2l C dX4_mixRow_14 ?_
  refine g_iconst (v := nI 1) C dX4_mixRow_15 (by decide) ?_
  refine g_callS1 (wr := []) (w2 := []) C (c_X4_mix l g (mixL (Int32.toInt64 (nI (k / 64))) 1 x) (Int32.toInt64 (nI (k % 64 + 1))) 1 (by omega)) (va_cwS 3 C.2.2.2.2.1 gX4_mixRow_X4_mix rfl rfl rfl (by decide +kernel) ⟨Nat.le_of_ble_eq_true rfl, Nat.le_of_ble_eq_true rfl⟩) [] [] rfl rfl rfl rfl rfl (by decide) rfl rfl (Nat.le_of_ble_eq_true rfl) dX4_mixRow_16 ⟨Nat.le_of_ble_eq_true rfl, Nat.le_of_ble_eq_true rfl⟩ rfl ?_
  refine g_lload_n C dX4_mixRow_19 rfl 2 rfl ?_
  refine g_bipush (v := nI 8) C dX4_mixRow_20 (by decide) ?_
  refine g_callS1 (wr := []) (w2 := []) C (c_X4_mix l g (mixL (Int32.toInt64 (nI (k % 64 + 1))) 1 (mixL (Int32.toInt64 (nI (k / 64))) 1 x)) v 8 (by omega)) (va_cwS 3 C.2.2.2.2.1 gX4_mixRow_X4_mix rfl rfl rfl (by decide +kernel) ⟨Nat.le_of_ble_eq_true rfl, Nat.le_of_ble_eq_true rfl⟩) [] [] rfl rfl rfl rfl rfl (by decide) rfl rfl (Nat.le_of_ble_eq_true rfl) dX4_mixRow_22 ⟨Nat.le_of_ble_eq_true rfl, Nat.le_of_ble_eq_true rfl⟩ rfl ?_
  refine g_iret C dX4_mixRow_25 (by decide) (by decide) ?_
  exact ⟨rfl, rfl⟩
set_option maxHeartbeats 4000000 in
set_option maxRecDepth 100000 in
theorem c_X1_size (l : Launch) (g : gE) (a : Nat → Nat) (sz : Int32) : Kt l g yX1_size wsX1_size 0 0 0 0 [.ref (a 0)] [(a 0, .inr (2, [.ref (a 1), .ref (a 2), .ref (a 3), .ref (a 4), .ref (a 5), .ref (a 6), .int sz]))] (kR (some (.int sz)) [(a 0, .inr (2, [.ref (a 1), .ref (a 2), .ref (a 3), .ref (a 4), .ref (a 5), .ref (a 6), .int sz]))]) := by
  have hinX1 : ∀ w ∈ wsX10, w ∈ wsX1_size := by
    intro w h
    unfold wsX1_size
    simp only [List.mem_cons, List.mem_append]
    simp only [h, or_true, true_or]
  refine g_enter (cc := cX1_size) (maxL := 1) (ret := (some .int)) (own := RX1) (L := [(0, .ref (a 0))]) (by decide) rfl rfl (Nat.le_of_ble_eq_true rfl) rfl ?_
  intro p e s m args below meth c hin0 C
  refine g_aload_n C dX1_size_0 rfl 0 rfl ?_
  refine g_get C hinX1 0 rfl rfl 6 (by decide) (by decide +kernel) rfl rfl dX1_size_1 ?_
  refine g_iret C dX1_size_4 (by decide) (by decide) ?_
  exact ⟨rfl, rfl⟩
set_option maxHeartbeats 4000000 in
set_option maxRecDepth 100000 in
theorem c_X1_has (l : Launch) (g : gE) (a : Nat → Nat) (sz : Int32) (pr : Nat → Bool) (k : Nat) (hk : k < 256) : Kt l g yX1_has wsX1_has 0 0 0 0 [.ref (a 0), .int (nI k)] [(a 0, .inr (2, [.ref (a 1), .ref (a 2), .ref (a 3), .ref (a 4), .ref (a 5), .ref (a 6), .int sz])), (a 1, gZ g 256 pr)] (kR (some (.int (bI (pr k)))) [(a 0, .inr (2, [.ref (a 1), .ref (a 2), .ref (a 3), .ref (a 4), .ref (a 5), .ref (a 6), .int sz])), (a 1, gZ g 256 pr)]) := by
  have hinX1 : ∀ w ∈ wsX10, w ∈ wsX1_has := by
    intro w h
    unfold wsX1_has
    simp only [List.mem_cons, List.mem_append]
    simp only [h, or_true, true_or]
  refine g_enter (cc := cX1_has) (maxL := 2) (ret := (some .boolean)) (own := RX1) (L := [(0, .ref (a 0)), (1, .int (nI k))]) (by decide) rfl rfl (Nat.le_of_ble_eq_true rfl) rfl ?_
  intro p e s m args below meth c hin0 C
  refine g_aload_n C dX1_has_0 rfl 0 rfl ?_
  refine g_get C hinX1 0 rfl rfl 0 (by decide) (by decide +kernel) rfl rfl dX1_has_1 ?_
  refine g_iload_n C dX1_has_4 rfl 1 rfl ?_
  refine g_zald C 1 rfl (by omega) (by decide) dX1_has_5 ?_
  refine g_zret C dX1_has_6 (by decide) (by decide) ?_
  exact ⟨rfl, rfl⟩
set_option maxHeartbeats 4000000 in
set_option maxRecDepth 100000 in
theorem c_X1_value (l : Launch) (g : gE) (a : Nat → Nat) (sz : Int32) (va : Nat → Int64) (k : Nat) (hk : k < 256) : Kt l g yX1_value wsX1_value 0 0 0 0 [.ref (a 0), .int (nI k)] [(a 0, .inr (2, [.ref (a 1), .ref (a 2), .ref (a 3), .ref (a 4), .ref (a 5), .ref (a 6), .int sz])), (a 2, gJ g 256 va)] (kR (some (.long (va k))) [(a 0, .inr (2, [.ref (a 1), .ref (a 2), .ref (a 3), .ref (a 4), .ref (a 5), .ref (a 6), .int sz])), (a 2, gJ g 256 va)]) := by
  have hinX1 : ∀ w ∈ wsX10, w ∈ wsX1_value := by
    intro w h
    unfold wsX1_value
    simp only [List.mem_cons, List.mem_append]
    simp only [h, or_true, true_or]
  refine g_enter (cc := cX1_value) (maxL := 2) (ret := (some .long)) (own := RX1) (L := [(0, .ref (a 0)), (1, .int (nI k))]) (by decide) rfl rfl (Nat.le_of_ble_eq_true rfl) rfl ?_
  intro p e s m args below meth c hin0 C
  refine g_aload_n C dX1_value_0 rfl 0 rfl ?_
  refine g_get C hinX1 0 rfl rfl 1 (by decide) (by decide +kernel) rfl rfl dX1_value_1 ?_
  refine g_iload_n C dX1_value_4 rfl 1 rfl ?_
  refine g_lald C 1 rfl (by omega) (by decide) dX1_value_5 ?_
  refine g_lret C dX1_value_6 (by decide) (by decide) ?_
  exact ⟨rfl, rfl⟩
set_option maxHeartbeats 4000000 in
set_option maxRecDepth 100000 in
theorem c_X1_holds (l : Launch) (g : gE) (a : Nat → Nat) (sz : Int32) (ho : Nat → Bool) (k : Nat) (hk : k < 4) : Kt l g yX1_holds wsX1_holds 0 0 0 0 [.ref (a 0), .int (nI k)] [(a 0, .inr (2, [.ref (a 1), .ref (a 2), .ref (a 3), .ref (a 4), .ref (a 5), .ref (a 6), .int sz])), (a 3, gZ g 4 ho)] (kR (some (.int (bI (ho k)))) [(a 0, .inr (2, [.ref (a 1), .ref (a 2), .ref (a 3), .ref (a 4), .ref (a 5), .ref (a 6), .int sz])), (a 3, gZ g 4 ho)]) := by
  have hinX1 : ∀ w ∈ wsX10, w ∈ wsX1_holds := by
    intro w h
    unfold wsX1_holds
    simp only [List.mem_cons, List.mem_append]
    simp only [h, or_true, true_or]
  refine g_enter (cc := cX1_holds) (maxL := 2) (ret := (some .boolean)) (own := RX1) (L := [(0, .ref (a 0)), (1, .int (nI k))]) (by decide) rfl rfl (Nat.le_of_ble_eq_true rfl) rfl ?_
  intro p e s m args below meth c hin0 C
  refine g_aload_n C dX1_holds_0 rfl 0 rfl ?_
  refine g_get C hinX1 0 rfl rfl 2 (by decide) (by decide +kernel) rfl rfl dX1_holds_1 ?_
  refine g_iload_n C dX1_holds_4 rfl 1 rfl ?_
  refine g_zald C 1 rfl (by omega) (by decide) dX1_holds_5 ?_
  refine g_zret C dX1_holds_6 (by decide) (by decide) ?_
  exact ⟨rfl, rfl⟩
set_option maxHeartbeats 4000000 in
set_option maxRecDepth 100000 in
theorem c_X1_setHolding (l : Launch) (g : gE) (a : Nat → Nat) (sz : Int32) (ho : Nat → Bool) (k : Nat) (bb : Bool) (hk : k < 4) : Kt l g yX1_setHolding wsX1_setHolding 0 0 0 0 [.ref (a 0), .int (nI k), .int (bI bb)] [(a 0, .inr (2, [.ref (a 1), .ref (a 2), .ref (a 3), .ref (a 4), .ref (a 5), .ref (a 6), .int sz])), (a 3, gZ g 4 ho)] (kR none [(a 0, .inr (2, [.ref (a 1), .ref (a 2), .ref (a 3), .ref (a 4), .ref (a 5), .ref (a 6), .int sz])), (a 3, gZ g 4 (va_up ho k bb))]) := by
  have hinX1 : ∀ w ∈ wsX10, w ∈ wsX1_setHolding := by
    intro w h
    unfold wsX1_setHolding
    simp only [List.mem_cons, List.mem_append]
    simp only [h, or_true, true_or]
  refine g_enter (cc := cX1_setHolding) (maxL := 3) (ret := none) (own := RX1) (L := [(0, .ref (a 0)), (1, .int (nI k)), (2, .int (bI bb))]) (by decide) rfl rfl (Nat.le_of_ble_eq_true rfl) rfl ?_
  intro p e s m args below meth c hin0 C
  refine g_aload_n C dX1_setHolding_0 rfl 0 rfl ?_
  refine g_get C hinX1 0 rfl rfl 2 (by decide) (by decide +kernel) rfl rfl dX1_setHolding_1 ?_
  refine g_iload_n C dX1_setHolding_4 rfl 1 rfl ?_
  refine g_iload_n C dX1_setHolding_5 rfl 2 rfl ?_
  refine g_zast (w2 := [(a 0, .inr (2, [.ref (a 1), .ref (a 2), .ref (a 3), .ref (a 4), .ref (a 5), .ref (a 6), .int sz])), (a 3, gZ g 4 (va_up ho k bb))]) C 1 rfl (by omega) (by decide) rfl dX1_setHolding_6 ?_
  refine g_vret C dX1_setHolding_7 (by decide) (by decide) ?_
  exact ⟨rfl, rfl⟩
set_option maxHeartbeats 4000000 in
set_option maxRecDepth 100000 in
theorem c_X1_put (l : Launch) (g : gE) (a : Nat → Nat) (sz : Int32) (pr : Nat → Bool) (va : Nat → Int64) (k : Nat) (v : Int64) (hk : k < 256) : Kt l g yX1_put wsX1_put 0 0 0 0 [.ref (a 0), .int (nI k), .long v] [(a 0, .inr (2, [.ref (a 1), .ref (a 2), .ref (a 3), .ref (a 4), .ref (a 5), .ref (a 6), .int sz])), (a 1, gZ g 256 pr), (a 2, gJ g 256 va)] (kR none [(a 0, .inr (2, [.ref (a 1), .ref (a 2), .ref (a 3), .ref (a 4), .ref (a 5), .ref (a 6), .int (cond (pr k) sz (sz + nI 1))])), (a 1, gZ g 256 (va_up pr k true)), (a 2, gJ g 256 (va_up va k v))]) := by
  have hinX1 : ∀ w ∈ wsX10, w ∈ wsX1_put := by
    intro w h
    unfold wsX1_put
    simp only [List.mem_cons, List.mem_append]
    simp only [h, or_true, true_or]
  refine g_enter (cc := cX1_put) (maxL := 4) (ret := none) (own := RX1) (L := [(0, .ref (a 0)), (1, .int (nI k)), (2, .long v)]) (by decide) rfl rfl (Nat.le_of_ble_eq_true rfl) rfl ?_
  intro p e s m args below meth c hin0 C
  refine g_aload_n C dX1_put_0 rfl 0 rfl ?_
  refine g_get C hinX1 0 rfl rfl 0 (by decide) (by decide +kernel) rfl rfl dX1_put_1 ?_
  refine g_iload_n C dX1_put_4 rfl 1 rfl ?_
  refine g_zald C 1 rfl (by omega) (by decide) dX1_put_5 ?_
  refine g_if_ne_b (tgt := 26) C dX1_put_6 (by decide) (fun c6 => ?_) (fun c6 => ?_)
  · skip
    refine g_aload_n C dX1_put_26 rfl 0 rfl ?_
    refine g_get C hinX1 0 rfl rfl 1 (by decide) (by decide +kernel) rfl rfl dX1_put_27 ?_
    refine g_iload_n C dX1_put_30 rfl 1 rfl ?_
    refine g_lload_n C dX1_put_31 rfl 2 rfl ?_
    refine g_last (w2 := [(a 0, .inr (2, [.ref (a 1), .ref (a 2), .ref (a 3), .ref (a 4), .ref (a 5), .ref (a 6), .int sz])), (a 1, gZ g 256 pr), (a 2, gJ g 256 (va_up va k v))]) C 2 rfl (by omega) (by decide) rfl dX1_put_32 ?_
    refine g_vret C dX1_put_33 (by decide) (by decide) ?_
    refine ⟨rfl, ?_⟩
    first | (rw [va_up_id c6, c6]; done) | (rw [va_up_id c6, c6]; rfl) | (rw [c6]; rfl)
  · skip
    refine g_aload_n C dX1_put_9 rfl 0 rfl ?_
    refine g_get C hinX1 0 rfl rfl 0 (by decide) (by decide +kernel) rfl rfl dX1_put_10 ?_
    refine g_iload_n C dX1_put_13 rfl 1 rfl ?_
    refine g_iconst (v := nI 1) C dX1_put_14 (by decide) ?_
    refine g_st (st2 := [.int (bI true), .int (nI k), .ref (a 1)]) rfl ?_
    refine g_zast (w2 := [(a 0, .inr (2, [.ref (a 1), .ref (a 2), .ref (a 3), .ref (a 4), .ref (a 5), .ref (a 6), .int sz])), (a 1, gZ g 256 (va_up pr k true)), (a 2, gJ g 256 va)]) C 1 rfl (by omega) (by decide) rfl dX1_put_15 ?_
    refine g_aload_n C dX1_put_16 rfl 0 rfl ?_
    refine g_dup C dX1_put_17 rfl ?_
    refine g_get C hinX1 0 rfl rfl 6 (by decide) (by decide +kernel) rfl rfl dX1_put_18 ?_
    refine g_iconst (v := nI 1) C dX1_put_21 (by decide) ?_
    refine g_iadd C dX1_put_22 ?_
    refine g_put (ty := .int) (w2 := [(a 0, .inr (2, [.ref (a 1), .ref (a 2), .ref (a 3), .ref (a 4), .ref (a 5), .ref (a 6), .int (sz + (nI 1))])), (a 1, gZ g 256 (va_up pr k true)), (a 2, gJ g 256 va)]) C hinX1 0 rfl rfl 6 (by decide) (by decide +kernel) rfl tyX1 tyX1_ok nmX1 rfl (by decide +kernel) rfl rfl (Nat.le_of_ble_eq_true rfl) rfl dX1_put_23 ?_
    refine g_aload_n C dX1_put_26 rfl 0 rfl ?_
    refine g_get C hinX1 0 rfl rfl 1 (by decide) (by decide +kernel) rfl rfl dX1_put_27 ?_
    refine g_iload_n C dX1_put_30 rfl 1 rfl ?_
    refine g_lload_n C dX1_put_31 rfl 2 rfl ?_
    refine g_last (w2 := [(a 0, .inr (2, [.ref (a 1), .ref (a 2), .ref (a 3), .ref (a 4), .ref (a 5), .ref (a 6), .int (sz + (nI 1))])), (a 1, gZ g 256 (va_up pr k true)), (a 2, gJ g 256 (va_up va k v))]) C 2 rfl (by omega) (by decide) rfl dX1_put_32 ?_
    refine g_vret C dX1_put_33 (by decide) (by decide) ?_
    refine ⟨rfl, ?_⟩
    first | (rw [va_up_id c6, c6]; done) | (rw [va_up_id c6, c6]; rfl) | (rw [c6]; rfl)
set_option maxHeartbeats 4000000 in
set_option maxRecDepth 100000 in
theorem c_X1_remove (l : Launch) (g : gE) (a : Nat → Nat) (sz : Int32) (pr : Nat → Bool) (k : Nat) (hk : k < 256) (hp : pr k = true) : Kt l g yX1_remove wsX1_remove 0 0 0 0 [.ref (a 0), .int (nI k)] [(a 0, .inr (2, [.ref (a 1), .ref (a 2), .ref (a 3), .ref (a 4), .ref (a 5), .ref (a 6), .int sz])), (a 1, gZ g 256 pr)] (kR none [(a 0, .inr (2, [.ref (a 1), .ref (a 2), .ref (a 3), .ref (a 4), .ref (a 5), .ref (a 6), .int (sz - nI 1)])), (a 1, gZ g 256 (va_up pr k false))]) := by
  have hinX1 : ∀ w ∈ wsX10, w ∈ wsX1_remove := by
    intro w h
    unfold wsX1_remove
    simp only [List.mem_cons, List.mem_append]
    simp only [h, or_true, true_or]
  refine g_enter (cc := cX1_remove) (maxL := 2) (ret := none) (own := RX1) (L := [(0, .ref (a 0)), (1, .int (nI k))]) (by decide) rfl rfl (Nat.le_of_ble_eq_true rfl) rfl ?_
  intro p e s m args below meth c hin0 C
  refine g_aload_n C dX1_remove_0 rfl 0 rfl ?_
  refine g_get C hinX1 0 rfl rfl 0 (by decide) (by decide +kernel) rfl rfl dX1_remove_1 ?_
  refine g_iload_n C dX1_remove_4 rfl 1 rfl ?_
  refine g_zald C 1 rfl (by omega) (by decide) dX1_remove_5 ?_
  refine g_if_eq_b (tgt := 26) C dX1_remove_6 (by decide) (fun c6 => ?_) (fun c6 => ?_)
  · skip
    rw [hp] at c6; cases c6
  · skip
    refine g_aload_n C dX1_remove_9 rfl 0 rfl ?_
    refine g_get C hinX1 0 rfl rfl 0 (by decide) (by decide +kernel) rfl rfl dX1_remove_10 ?_
    refine g_iload_n C dX1_remove_13 rfl 1 rfl ?_
    refine g_iconst (v := nI 0) C dX1_remove_14 (by decide) ?_
    refine g_st (st2 := [.int (bI false), .int (nI k), .ref (a 1)]) rfl ?_
    refine g_zast (w2 := [(a 0, .inr (2, [.ref (a 1), .ref (a 2), .ref (a 3), .ref (a 4), .ref (a 5), .ref (a 6), .int sz])), (a 1, gZ g 256 (va_up pr k false))]) C 1 rfl (by omega) (by decide) rfl dX1_remove_15 ?_
    refine g_aload_n C dX1_remove_16 rfl 0 rfl ?_
    refine g_dup C dX1_remove_17 rfl ?_
    refine g_get C hinX1 0 rfl rfl 6 (by decide) (by decide +kernel) rfl rfl dX1_remove_18 ?_
    refine g_iconst (v := nI 1) C dX1_remove_21 (by decide) ?_
    refine g_isub C dX1_remove_22 ?_
    refine g_put (ty := .int) (w2 := [(a 0, .inr (2, [.ref (a 1), .ref (a 2), .ref (a 3), .ref (a 4), .ref (a 5), .ref (a 6), .int (sz - (nI 1))])), (a 1, gZ g 256 (va_up pr k false))]) C hinX1 0 rfl rfl 6 (by decide) (by decide +kernel) rfl tyX1 tyX1_ok nmX1 rfl (by decide +kernel) rfl rfl (Nat.le_of_ble_eq_true rfl) rfl dX1_remove_23 ?_
    refine g_vret C dX1_remove_26 (by decide) (by decide) ?_
    exact ⟨rfl, rfl⟩
set_option maxHeartbeats 4000000 in
set_option maxRecDepth 100000 in
theorem c_X1_hasCounting (l : Launch) (g : gE) (a : Nat → Nat) (b : Nat → Nat) (sz : Int32) (sz2 : Int32) (pr : Nat → Bool) (ho : Nat → Bool) (ho2 : Nat → Bool) (k : Nat) (hk : k < 256) : Kt l g yX1_hasCounting wsX1_hasCounting 1 20 0 0 [.ref (a 0), .int (nI k), .ref (b 0)] [(a 0, .inr (2, [.ref (a 1), .ref (a 2), .ref (a 3), .ref (a 4), .ref (a 5), .ref (a 6), .int sz])), (a 1, gZ g 256 pr), (a 3, gZ g 4 ho), (b 0, .inr (2, [.ref (b 1), .ref (b 2), .ref (b 3), .ref (b 4), .ref (b 5), .ref (b 6), .int sz2])), (b 3, gZ g 4 ho2)] (kR (some (.int (bI (qC pr ho ho2 k)))) [(a 0, .inr (2, [.ref (a 1), .ref (a 2), .ref (a 3), .ref (a 4), .ref (a 5), .ref (a 6), .int sz])), (a 1, gZ g 256 pr), (a 3, gZ g 4 ho), (b 0, .inr (2, [.ref (b 1), .ref (b 2), .ref (b 3), .ref (b 4), .ref (b 5), .ref (b 6), .int sz2])), (b 3, gZ g 4 ho2)]) := by
  have hinX1 : ∀ w ∈ wsX10, w ∈ wsX1_hasCounting := by
    intro w h
    unfold wsX1_hasCounting
    simp only [List.mem_cons, List.mem_append]
    simp only [h, or_true, true_or]
  refine g_enter (cc := cX1_hasCounting) (maxL := 3) (ret := (some .boolean)) (own := RX1) (L := [(0, .ref (a 0)), (1, .int (nI k)), (2, .ref (b 0))]) (by decide) rfl rfl (Nat.le_of_ble_eq_true rfl) rfl ?_
  intro p e s m args below meth c hin0 C
  refine g_aload_n C dX1_hasCounting_0 rfl 0 rfl ?_
  refine g_get C hinX1 0 rfl rfl 0 (by decide) (by decide +kernel) rfl rfl dX1_hasCounting_1 ?_
  refine g_iload_n C dX1_hasCounting_4 rfl 1 rfl ?_
  refine g_zald C 1 rfl (by omega) (by decide) dX1_hasCounting_5 ?_
  refine g_if_eq_b (tgt := 37) C dX1_hasCounting_6 (by decide) (fun c6 => ?_) (fun c6 => ?_)
  · skip
    refine g_iconst (v := nI 0) C dX1_hasCounting_37 (by decide) ?_
    refine g_st (st2 := [.int (bI false)]) rfl ?_
    refine g_zret C dX1_hasCounting_38 (by decide) (by decide) ?_
    refine ⟨congrArg (fun b => some (Value.int (bI b))) ?_, rfl⟩
    first | (simp [qC, c6, c18, c30]; done) | (simp [qC, c6, c18]; done) | (simp [qC, c6]; done)
  · skip
    refine g_aload_n C dX1_hasCounting_9 rfl 0 rfl ?_
    refine g_get C hinX1 0 rfl rfl 2 (by decide) (by decide +kernel) rfl rfl dX1_hasCounting_10 ?_
    refine g_iload_n C dX1_hasCounting_13 rfl 1 rfl ?_
    refine g_callSN1 (wr := [(a 0, .inr (2, [.ref (a 1), .ref (a 2), .ref (a 3), .ref (a 4), .ref (a 5), .ref (a 6), .int sz])), (a 1, gZ g 256 pr), (a 3, gZ g 4 ho), (b 0, .inr (2, [.ref (b 1), .ref (b 2), .ref (b 3), .ref (b 4), .ref (b 5), .ref (b 6), .int sz2])), (b 3, gZ g 4 ho2)]) (w2 := [(a 0, .inr (2, [.ref (a 1), .ref (a 2), .ref (a 3), .ref (a 4), .ref (a 5), .ref (a 6), .int sz])), (a 1, gZ g 256 pr), (a 3, gZ g 4 ho), (b 0, .inr (2, [.ref (b 1), .ref (b 2), .ref (b 3), .ref (b 4), .ref (b 5), .ref (b 6), .int sz2])), (b 3, gZ g 4 ho2)]) C (c_X4_nodeOf l g k (by omega)) ⟨va_cnB 1 C.2.2.2.2.1 gX1_hasCounting_X4_nodeOf_n36 rfl rfl rfl (C.2.2.2.2.2.2.2.2.2.2.2.2.2.2.2 _ (List.mem_of_getElem? (i := 1) rfl)) (C.2.2.2.2.1 _ (by decide +kernel)) (by decide +kernel) ⟨Nat.le_of_ble_eq_true rfl, Nat.le_of_ble_eq_true rfl⟩, C.2.2.2.2.1 _ (by decide +kernel), trivial⟩ [] [0, 1, 2, 3, 4] rfl rfl rfl rfl rfl (by decide) rfl rfl (Nat.le_of_ble_eq_true rfl) dX1_hasCounting_14 ⟨Nat.le_of_ble_eq_true rfl, Nat.le_of_ble_eq_true rfl⟩ rfl ?_
    refine g_zald C 2 rfl (by omega) (by decide) dX1_hasCounting_17 ?_
    refine g_if_eq_b (tgt := 37) C dX1_hasCounting_18 (by decide) (fun c18 => ?_) (fun c18 => ?_)
    · skip
      refine g_iconst (v := nI 0) C dX1_hasCounting_37 (by decide) ?_
      refine g_st (st2 := [.int (bI false)]) rfl ?_
      refine g_zret C dX1_hasCounting_38 (by decide) (by decide) ?_
      refine ⟨congrArg (fun b => some (Value.int (bI b))) ?_, rfl⟩
      first | (simp [qC, c6, c18, c30]; done) | (simp [qC, c6, c18]; done) | (simp [qC, c6]; done)
    · skip
      refine g_aload_n C dX1_hasCounting_21 rfl 2 rfl ?_
      refine g_get C hinX1 3 rfl rfl 2 (by decide) (by decide +kernel) rfl rfl dX1_hasCounting_22 ?_
      refine g_iload_n C dX1_hasCounting_25 rfl 1 rfl ?_
      refine g_callSN1 (wr := [(a 0, .inr (2, [.ref (a 1), .ref (a 2), .ref (a 3), .ref (a 4), .ref (a 5), .ref (a 6), .int sz])), (a 1, gZ g 256 pr), (a 3, gZ g 4 ho), (b 0, .inr (2, [.ref (b 1), .ref (b 2), .ref (b 3), .ref (b 4), .ref (b 5), .ref (b 6), .int sz2])), (b 3, gZ g 4 ho2)]) (w2 := [(a 0, .inr (2, [.ref (a 1), .ref (a 2), .ref (a 3), .ref (a 4), .ref (a 5), .ref (a 6), .int sz])), (a 1, gZ g 256 pr), (a 3, gZ g 4 ho), (b 0, .inr (2, [.ref (b 1), .ref (b 2), .ref (b 3), .ref (b 4), .ref (b 5), .ref (b 6), .int sz2])), (b 3, gZ g 4 ho2)]) C (c_X4_nodeOf l g k (by omega)) ⟨va_cnB 1 C.2.2.2.2.1 gX1_hasCounting_X4_nodeOf_n36 rfl rfl rfl (C.2.2.2.2.2.2.2.2.2.2.2.2.2.2.2 _ (List.mem_of_getElem? (i := 1) rfl)) (C.2.2.2.2.1 _ (by decide +kernel)) (by decide +kernel) ⟨Nat.le_of_ble_eq_true rfl, Nat.le_of_ble_eq_true rfl⟩, C.2.2.2.2.1 _ (by decide +kernel), trivial⟩ [] [0, 1, 2, 3, 4] rfl rfl rfl rfl rfl (by decide) rfl rfl (Nat.le_of_ble_eq_true rfl) dX1_hasCounting_26 ⟨Nat.le_of_ble_eq_true rfl, Nat.le_of_ble_eq_true rfl⟩ rfl ?_
      refine g_zald C 4 rfl (by omega) (by decide) dX1_hasCounting_29 ?_
      refine g_if_eq_b (tgt := 37) C dX1_hasCounting_30 (by decide) (fun c30 => ?_) (fun c30 => ?_)
      · skip
        refine g_iconst (v := nI 0) C dX1_hasCounting_37 (by decide) ?_
        refine g_st (st2 := [.int (bI false)]) rfl ?_
        refine g_zret C dX1_hasCounting_38 (by decide) (by decide) ?_
        refine ⟨congrArg (fun b => some (Value.int (bI b))) ?_, rfl⟩
        first | (simp [qC, c6, c18, c30]; done) | (simp [qC, c6, c18]; done) | (simp [qC, c6]; done)
      · skip
        refine g_iconst (v := nI 1) C dX1_hasCounting_33 (by decide) ?_
        refine g_goto (tgt := 38) C dX1_hasCounting_34 (by decide) ?_
        refine g_st (st2 := [.int (bI true)]) rfl ?_
        refine g_zret C dX1_hasCounting_38 (by decide) (by decide) ?_
        refine ⟨congrArg (fun b => some (Value.int (bI b))) ?_, rfl⟩
        first | (simp [qC, c6, c18, c30]; done) | (simp [qC, c6, c18]; done) | (simp [qC, c6]; done)
set_option maxHeartbeats 4000000 in
set_option maxRecDepth 100000 in
theorem c_X1_countingIn (l : Launch) (g : gE) (a : Nat → Nat) (sz : Int32) (ct : Nat → Int32) (k : Nat) (hk : k < 64) : Kt l g yX1_countingIn wsX1_countingIn 0 0 0 0 [.ref (a 0), .int (nI k)] [(a 0, .inr (2, [.ref (a 1), .ref (a 2), .ref (a 3), .ref (a 4), .ref (a 5), .ref (a 6), .int sz])), (a 6, gI g 64 ct)] (kR (some (.int (ct k))) [(a 0, .inr (2, [.ref (a 1), .ref (a 2), .ref (a 3), .ref (a 4), .ref (a 5), .ref (a 6), .int sz])), (a 6, gI g 64 ct)]) := by
  have hinX1 : ∀ w ∈ wsX10, w ∈ wsX1_countingIn := by
    intro w h
    unfold wsX1_countingIn
    simp only [List.mem_cons, List.mem_append]
    simp only [h, or_true, true_or]
  refine g_enter (cc := cX1_countingIn) (maxL := 2) (ret := (some .int)) (own := RX1) (L := [(0, .ref (a 0)), (1, .int (nI k))]) (by decide) rfl rfl (Nat.le_of_ble_eq_true rfl) rfl ?_
  intro p e s m args below meth c hin0 C
  refine g_aload_n C dX1_countingIn_0 rfl 0 rfl ?_
  refine g_get C hinX1 0 rfl rfl 5 (by decide) (by decide +kernel) rfl rfl dX1_countingIn_1 ?_
  refine g_iload_n C dX1_countingIn_4 rfl 1 rfl ?_
  refine g_iald C 1 rfl (by omega) (by decide) dX1_countingIn_5 ?_
  refine g_iret C dX1_countingIn_6 (by decide) (by decide) ?_
  exact ⟨rfl, rfl⟩
set_option maxHeartbeats 4000000 in
set_option maxRecDepth 100000 in
theorem c_X1_keptSum (l : Launch) (g : gE) (a : Nat → Nat) (sz : Int32) (sm : Nat → Int32) (k : Nat) (hk : k < 64) : Kt l g yX1_keptSum wsX1_keptSum 0 0 0 0 [.ref (a 0), .int (nI k)] [(a 0, .inr (2, [.ref (a 1), .ref (a 2), .ref (a 3), .ref (a 4), .ref (a 5), .ref (a 6), .int sz])), (a 5, gI g 64 sm)] (kR (some (.int (sm k))) [(a 0, .inr (2, [.ref (a 1), .ref (a 2), .ref (a 3), .ref (a 4), .ref (a 5), .ref (a 6), .int sz])), (a 5, gI g 64 sm)]) := by
  have hinX1 : ∀ w ∈ wsX10, w ∈ wsX1_keptSum := by
    intro w h
    unfold wsX1_keptSum
    simp only [List.mem_cons, List.mem_append]
    simp only [h, or_true, true_or]
  refine g_enter (cc := cX1_keptSum) (maxL := 2) (ret := (some .int)) (own := RX1) (L := [(0, .ref (a 0)), (1, .int (nI k))]) (by decide) rfl rfl (Nat.le_of_ble_eq_true rfl) rfl ?_
  intro p e s m args below meth c hin0 C
  refine g_aload_n C dX1_keptSum_0 rfl 0 rfl ?_
  refine g_get C hinX1 0 rfl rfl 4 (by decide) (by decide +kernel) rfl rfl dX1_keptSum_1 ?_
  refine g_iload_n C dX1_keptSum_4 rfl 1 rfl ?_
  refine g_iald C 1 rfl (by omega) (by decide) dX1_keptSum_5 ?_
  refine g_iret C dX1_keptSum_6 (by decide) (by decide) ?_
  exact ⟨rfl, rfl⟩
set_option maxHeartbeats 4000000 in
set_option maxRecDepth 100000 in
theorem c_X1_keptByte (l : Launch) (g : gE) (a : Nat → Nat) (sz : Int32) (dg : Nat → Int32) (r : Nat) (i : Nat) (hr : r < 64) (hi : i < 32) : Kt l g yX1_keptByte wsX1_keptByte 0 0 0 0 [.ref (a 0), .int (nI r), .int (nI i)] [(a 0, .inr (2, [.ref (a 1), .ref (a 2), .ref (a 3), .ref (a 4), .ref (a 5), .ref (a 6), .int sz])), (a 4, gI g 512 dg)] (kR (some (.int (us (dg (8 * r + i / 4)) (nI (24 - 8 * (i % 4))) &&& nI 255))) [(a 0, .inr (2, [.ref (a 1), .ref (a 2), .ref (a 3), .ref (a 4), .ref (a 5), .ref (a 6), .int sz])), (a 4, gI g 512 dg)]) := by
  have hinX1 : ∀ w ∈ wsX10, w ∈ wsX1_keptByte := by
    intro w h
    unfold wsX1_keptByte
    simp only [List.mem_cons, List.mem_append]
    simp only [h, or_true, true_or]
  refine g_enter (cc := cX1_keptByte) (maxL := 3) (ret := (some .int)) (own := RX1) (L := [(0, .ref (a 0)), (1, .int (nI r)), (2, .int (nI i))]) (by decide) rfl rfl (Nat.le_of_ble_eq_true rfl) rfl ?_
  intro p e s m args below meth c hin0 C
  refine g_aload_n C dX1_keptByte_0 rfl 0 rfl ?_
  refine g_get C hinX1 0 rfl rfl 3 (by decide) (by decide +kernel) rfl rfl dX1_keptByte_1 ?_
  refine g_bipush (v := nI 8) C dX1_keptByte_4 (by decide) ?_
  refine g_iload_n C dX1_keptByte_6 rfl 1 rfl ?_
  refine g_imul_n C dX1_keptByte_7 ?_
  refine g_iload_n C dX1_keptByte_8 rfl 2 rfl ?_
  refine g_iconst (v := nI 4) C dX1_keptByte_9 (by decide) ?_
  refine g_idiv_n C dX1_keptByte_10 (by omega) (by omega) (by omega) ?_
  refine g_iadd_n C dX1_keptByte_11 ?_
  refine g_iald C 1 rfl (by omega) (by decide) dX1_keptByte_12 ?_
  refine g_bipush (v := nI 24) C dX1_keptByte_13 (by decide) ?_
  refine g_bipush (v := nI 8) C dX1_keptByte_15 (by decide) ?_
  refine g_iload_n C dX1_keptByte_17 rfl 2 rfl ?_
  refine g_iconst (v := nI 4) C dX1_keptByte_18 (by decide) ?_
  refine g_irem_n C dX1_keptByte_19 (by omega) (by omega) (by omega) ?_
  refine g_imul_n C dX1_keptByte_20 ?_
  refine g_isub_n C dX1_keptByte_21 (by omega) ?_
  refine g_iushr C dX1_keptByte_22 ?_
  refine g_sipush (v := nI 255) C dX1_keptByte_23 (by decide) ?_
  refine g_iand C dX1_keptByte_26 ?_
  refine g_iret C dX1_keptByte_27 (by decide) (by decide) ?_
  exact ⟨rfl, rfl⟩
set_option maxHeartbeats 4000000 in
set_option maxRecDepth 100000 in
theorem c_X1_keepsLike (l : Launch) (g : gE) (a : Nat → Nat) (b : Nat → Nat) (sz : Int32) (sz2 : Int32) (dg : Nat → Int32) (dg2 : Nat → Int32) (r : Nat) (hr : r < 64) : Kt l g yX1_keepsLike wsX1_keepsLike 0 0 0 0 [.ref (a 0), .ref (b 0), .int (nI r)] [(a 0, .inr (2, [.ref (a 1), .ref (a 2), .ref (a 3), .ref (a 4), .ref (a 5), .ref (a 6), .int sz])), (a 4, gI g 512 dg), (b 0, .inr (2, [.ref (b 1), .ref (b 2), .ref (b 3), .ref (b 4), .ref (b 5), .ref (b 6), .int sz2])), (b 4, gI g 512 dg2)] (kR (some (.int (bI (eq8 dg dg2 (8 * r) (8 * r))))) [(a 0, .inr (2, [.ref (a 1), .ref (a 2), .ref (a 3), .ref (a 4), .ref (a 5), .ref (a 6), .int sz])), (a 4, gI g 512 dg), (b 0, .inr (2, [.ref (b 1), .ref (b 2), .ref (b 3), .ref (b 4), .ref (b 5), .ref (b 6), .int sz2])), (b 4, gI g 512 dg2)]) := by
  have hinX1 : ∀ w ∈ wsX10, w ∈ wsX1_keepsLike := by
    intro w h
    unfold wsX1_keepsLike
    simp only [List.mem_cons, List.mem_append]
    simp only [h, or_true, true_or]
  refine g_enter (cc := cX1_keepsLike) (maxL := 5) (ret := (some .boolean)) (own := RX1) (L := [(0, .ref (a 0)), (1, .ref (b 0)), (2, .int (nI r))]) (by decide) rfl rfl (Nat.le_of_ble_eq_true rfl) rfl ?_
  intro p e s m args below meth c hin0 C
  refine g_bipush (v := nI 8) C dX1_keepsLike_0 (by decide) ?_
  refine g_iload_n C dX1_keepsLike_2 rfl 2 rfl ?_
  refine g_imul_n C dX1_keepsLike_3 ?_
  refine g_istore_n (L' := [(3, .int (nI (8 * r))), (0, .ref (a 0)), (1, .ref (b 0)), (2, .int (nI r))]) C dX1_keepsLike_4 rfl (by decide) rfl ?_
  refine g_iload_n C dX1_keepsLike_5 rfl 0 rfl ?_
  refine g_istore (L' := [(4, .int (nI (8 * r))), (3, .int (nI (8 * r))), (0, .ref (a 0)), (1, .ref (b 0)), (2, .int (nI r))]) C dX1_keepsLike_6 (by decide) rfl ?_
  refine g_up 8 0 (fun j => ∀ q, q < j → dg (8 * r + q) = dg2 (8 * r + q)) (fun j => [(4, .int (nI (8 * r + j))), (3, .int (nI (8 * r))), (0, .ref (a 0)), (1, .ref (b 0)), (2, .int (nI r))]) (fun j => [(a 0, .inr (2, [.ref (a 1), .ref (a 2), .ref (a 3), .ref (a 4), .ref (a 5), .ref (a 6), .int sz])), (a 4, gI g 512 dg), (b 0, .inr (2, [.ref (b 1), .ref (b 2), .ref (b 3), .ref (b 4), .ref (b 5), .ref (b 6), .int sz2])), (b 4, gI g 512 dg2)]) (by omega) (fun q hq => absurd hq (Nat.not_lt_zero q)) ?_ ?_
  · intro hPj
    try dsimp only
    refine g_iload C dX1_keepsLike_8 0 rfl ?_
    refine g_iload_n C dX1_keepsLike_10 rfl 1 rfl ?_
    refine g_bipush (v := nI 8) C dX1_keepsLike_11 (by decide) ?_
    refine g_iadd_n C dX1_keepsLike_13 ?_
    refine g_icmp_ge_n (tgt := 42) C dX1_keepsLike_14 (by decide) (by omega) (by omega) (fun c14 => ?_) (fun c14 => ?_)
    · skip
      refine g_iconst (v := nI 1) C dX1_keepsLike_42 (by decide) ?_
      refine g_st (st2 := [.int (bI true)]) rfl ?_
      refine g_zret C dX1_keepsLike_43 (by decide) (by decide) ?_
      exact ⟨by rw [eq8_t hPj], rfl⟩
    · skip
      exfalso; omega
  · intro j hlj huj hPj ihj
    try dsimp only at ihj ⊢
    refine g_iload C dX1_keepsLike_8 0 rfl ?_
    refine g_iload_n C dX1_keepsLike_10 rfl 1 rfl ?_
    refine g_bipush (v := nI 8) C dX1_keepsLike_11 (by decide) ?_
    refine g_iadd_n C dX1_keepsLike_13 ?_
    refine g_icmp_ge_n (tgt := 42) C dX1_keepsLike_14 (by decide) (by omega) (by omega) (fun c14 => ?_) (fun c14 => ?_)
    · skip
      exfalso; omega
    · skip
      refine g_aload_n C dX1_keepsLike_17 rfl 2 rfl ?_
      refine g_get C hinX1 0 rfl rfl 3 (by decide) (by decide +kernel) rfl rfl dX1_keepsLike_18 ?_
      refine g_iload C dX1_keepsLike_21 0 rfl ?_
      refine g_iald C 1 rfl (by omega) (by decide) dX1_keepsLike_23 ?_
      refine g_aload_n C dX1_keepsLike_24 rfl 3 rfl ?_
      refine g_get C hinX1 2 rfl rfl 3 (by decide) (by decide +kernel) rfl rfl dX1_keepsLike_25 ?_
      refine g_iload C dX1_keepsLike_28 0 rfl ?_
      refine g_iald C 3 rfl (by omega) (by decide) dX1_keepsLike_30 ?_
      refine g_icmp_eq (tgt := 36) C dX1_keepsLike_31 (by decide) (fun c31 => ?_) (fun c31 => ?_)
      · skip
        refine g_iinc_n (d := 1) (L' := [(4, .int (nI ((8 * r + j) + 1))), (3, .int (nI (8 * r))), (0, .ref (a 0)), (1, .ref (b 0)), (2, .int (nI r))]) C dX1_keepsLike_36 0 rfl (by decide) (by decide) rfl ?_
        refine g_goto (tgt := 8) C dX1_keepsLike_39 (by decide) ?_
        exact ihj (lt_s hPj c31)
      · skip
        refine g_iconst (v := nI 0) C dX1_keepsLike_34 (by decide) ?_
        refine g_st (st2 := [.int (bI false)]) rfl ?_
        refine g_zret C dX1_keepsLike_35 (by decide) (by decide) ?_
        exact ⟨by rw [eq8_f huj c31], rfl⟩
set_option maxHeartbeats 4000000 in
set_option maxRecDepth 100000 in
theorem c_X1_isKept (l : Launch) (g : gE) (a : Nat → Nat) (h : Nat → Nat) (sz : Int32) (dg : Nat → Int32) (tk : Nat) (ss : Nat → Int32) (ww : Nat → Int32) (r : Nat) (hr : r < 64) : Kt l g yX1_isKept wsX1_isKept 1 21 0 0 [.ref (a 0), .int (nI r), .ref (h 0)] [(a 0, .inr (2, [.ref (a 1), .ref (a 2), .ref (a 3), .ref (a 4), .ref (a 5), .ref (a 6), .int sz])), (a 4, gI g 512 dg), (h 0, .inr (1, [.ref (h 1), .ref (h 2), .int (nI tk)])), (h 1, gI g 8 ss), (h 2, gI g 64 ww)] (kR (some (.int (bI (eq8 dg ss (8 * r) 0)))) [(a 0, .inr (2, [.ref (a 1), .ref (a 2), .ref (a 3), .ref (a 4), .ref (a 5), .ref (a 6), .int sz])), (a 4, gI g 512 dg), (h 0, .inr (1, [.ref (h 1), .ref (h 2), .int (nI tk)])), (h 1, gI g 8 ss), (h 2, gI g 64 ww)]) := by
  have hinX1 : ∀ w ∈ wsX10, w ∈ wsX1_isKept := by
    intro w h
    unfold wsX1_isKept
    simp only [List.mem_cons, List.mem_append]
    simp only [h, or_true, true_or]
  refine g_enter (cc := cX1_isKept) (maxL := 4) (ret := (some .boolean)) (own := RX1) (L := [(0, .ref (a 0)), (1, .int (nI r)), (2, .ref (h 0))]) (by decide) rfl rfl (Nat.le_of_ble_eq_true rfl) rfl ?_
  intro p e s m args below meth c hin0 C
  refine g_iconst (v := nI 0) C dX1_isKept_0 (by decide) ?_
  refine g_istore_n (L' := [(3, .int (nI 0)), (0, .ref (a 0)), (1, .int (nI r)), (2, .ref (h 0))]) C dX1_isKept_1 rfl (by decide) rfl ?_
  refine g_up 8 0 (fun j => ∀ q, q < j → dg (8 * r + q) = ss (0 + q)) (fun j => [(3, .int (nI j)), (0, .ref (a 0)), (1, .int (nI r)), (2, .ref (h 0))]) (fun j => [(a 0, .inr (2, [.ref (a 1), .ref (a 2), .ref (a 3), .ref (a 4), .ref (a 5), .ref (a 6), .int sz])), (a 4, gI g 512 dg), (h 0, .inr (1, [.ref (h 1), .ref (h 2), .int (nI tk)])), (h 1, gI g 8 ss), (h 2, gI g 64 ww)]) (by omega) (fun q hq => absurd hq (Nat.not_lt_zero q)) ?_ ?_
  · intro hPj
    try dsimp only
    refine g_iload_n C dX1_isKept_2 rfl 0 rfl ?_
    refine g_bipush (v := nI 8) C dX1_isKept_3 (by decide) ?_
    refine g_icmp_ge_n (tgt := 35) C dX1_isKept_5 (by decide) (by omega) (by omega) (fun c5 => ?_) (fun c5 => ?_)
    · skip
      refine g_iconst (v := nI 1) C dX1_isKept_35 (by decide) ?_
      refine g_st (st2 := [.int (bI true)]) rfl ?_
      refine g_zret C dX1_isKept_36 (by decide) (by decide) ?_
      exact ⟨by rw [eq8_t hPj], rfl⟩
    · skip
      exfalso; omega
  · intro j hlj huj hPj ihj
    try dsimp only at ihj ⊢
    refine g_iload_n C dX1_isKept_2 rfl 0 rfl ?_
    refine g_bipush (v := nI 8) C dX1_isKept_3 (by decide) ?_
    refine g_icmp_ge_n (tgt := 35) C dX1_isKept_5 (by decide) (by omega) (by omega) (fun c5 => ?_) (fun c5 => ?_)
    · skip
      exfalso; omega
    · skip
      refine g_aload_n C dX1_isKept_8 rfl 1 rfl ?_
      refine g_get C hinX1 0 rfl rfl 3 (by decide) (by decide +kernel) rfl rfl dX1_isKept_9 ?_
      refine g_bipush (v := nI 8) C dX1_isKept_12 (by decide) ?_
      refine g_iload_n C dX1_isKept_14 rfl 2 rfl ?_
      refine g_imul_n C dX1_isKept_15 ?_
      refine g_iload_n C dX1_isKept_16 rfl 0 rfl ?_
      refine g_iadd_n C dX1_isKept_17 ?_
      refine g_iald C 1 rfl (by omega) (by decide) dX1_isKept_18 ?_
      refine g_aload_n C dX1_isKept_19 rfl 3 rfl ?_
      refine g_iload_n C dX1_isKept_20 rfl 0 rfl ?_
      refine g_callV1 (wr := [(a 0, .inr (2, [.ref (a 1), .ref (a 2), .ref (a 3), .ref (a 4), .ref (a 5), .ref (a 6), .int sz])), (a 4, gI g 512 dg)]) (w2 := [(a 0, .inr (2, [.ref (a 1), .ref (a 2), .ref (a 3), .ref (a 4), .ref (a 5), .ref (a 6), .int sz])), (a 4, gI g 512 dg), (h 0, .inr (1, [.ref (h 1), .ref (h 2), .int (nI tk)])), (h 1, gI g 8 ss), (h 2, gI g 64 ww)]) C (c_X0_word l g h tk ss ww j (by omega)) (cwV 1 C.2.2.2.2.1 gX1_isKept_X0_word rfl rfl rfl (by decide +kernel) ⟨Nat.le_of_ble_eq_true rfl, Nat.le_of_ble_eq_true rfl⟩) 2 rfl rfl rfl [2, 3, 4] [0, 1] rfl rfl rfl rfl rfl (by decide) rfl rfl (Nat.le_of_ble_eq_true rfl) dX1_isKept_21 ⟨Nat.le_of_ble_eq_true rfl, Nat.le_of_ble_eq_true rfl⟩ rfl ?_
      refine g_icmp_eq (tgt := 29) C dX1_isKept_24 (by decide) (fun c24 => ?_) (fun c24 => ?_)
      · skip
        refine g_iinc_n (d := 1) (L' := [(3, .int (nI (j + 1))), (0, .ref (a 0)), (1, .int (nI r)), (2, .ref (h 0))]) C dX1_isKept_29 0 rfl (by decide) (by decide) rfl ?_
        refine g_goto (tgt := 2) C dX1_isKept_32 (by decide) ?_
        exact ihj (lt_s hPj (by rw [Nat.zero_add]; exact c24))
      · skip
        refine g_iconst (v := nI 0) C dX1_isKept_27 (by decide) ?_
        refine g_st (st2 := [.int (bI false)]) rfl ?_
        refine g_zret C dX1_isKept_28 (by decide) (by decide) ?_
        exact ⟨by rw [eq8_f huj (by rw [Nat.zero_add]; exact c24)], rfl⟩
set_option maxHeartbeats 4000000 in
set_option maxRecDepth 100000 in
theorem c_X1_keep (l : Launch) (g : gE) (a : Nat → Nat) (h : Nat → Nat) (sz : Int32) (dg : Nat → Int32) (tk : Nat) (ss : Nat → Int32) (ww : Nat → Int32) (r : Nat) (hr : r < 64) : Kt l g yX1_keep wsX1_keep 2 44 0 0 [.ref (a 0), .int (nI r), .ref (h 0)] [(a 0, .inr (2, [.ref (a 1), .ref (a 2), .ref (a 3), .ref (a 4), .ref (a 5), .ref (a 6), .int sz])), (a 4, gI g 512 dg), (h 0, .inr (1, [.ref (h 1), .ref (h 2), .int (nI tk)])), (h 1, gI g 8 ss), (h 2, gI g 64 ww)] (kR (some (.int (nI (keepN dg (8 * r) ss)))) [(a 0, .inr (2, [.ref (a 1), .ref (a 2), .ref (a 3), .ref (a 4), .ref (a 5), .ref (a 6), .int sz])), (a 4, gI g 512 (cp8 dg (8 * r) ss 8)), (h 0, .inr (1, [.ref (h 1), .ref (h 2), .int (nI tk)])), (h 1, gI g 8 ss), (h 2, gI g 64 ww)]) := by
  have hinX1 : ∀ w ∈ wsX10, w ∈ wsX1_keep := by
    intro w h
    unfold wsX1_keep
    simp only [List.mem_cons, List.mem_append]
    simp only [h, or_true, true_or]
  refine g_enter (cc := cX1_keep) (maxL := 4) (ret := (some .int)) (own := RX1) (L := [(0, .ref (a 0)), (1, .int (nI r)), (2, .ref (h 0))]) (by decide) rfl rfl (Nat.le_of_ble_eq_true rfl) rfl ?_
  intro p e s m args below meth c hin0 C
  refine g_aload_n C dX1_keep_0 rfl 0 rfl ?_
  refine g_iload_n C dX1_keep_1 rfl 1 rfl ?_
  refine g_aload_n C dX1_keep_2 rfl 2 rfl ?_
  refine g_callV1 (wr := []) (w2 := [(a 0, .inr (2, [.ref (a 1), .ref (a 2), .ref (a 3), .ref (a 4), .ref (a 5), .ref (a 6), .int sz])), (a 4, gI g 512 dg), (h 0, .inr (1, [.ref (h 1), .ref (h 2), .int (nI tk)])), (h 1, gI g 8 ss), (h 2, gI g 64 ww)]) C (c_X1_isKept l g a h sz dg tk ss ww r (by omega)) (cwV 2 C.2.2.2.2.1 gX1_keep_X1_isKept rfl rfl rfl (by decide +kernel) ⟨Nat.le_of_ble_eq_true rfl, Nat.le_of_ble_eq_true rfl⟩) 0 rfl rfl rfl [0, 1, 2, 3, 4] [] rfl rfl rfl rfl rfl (by decide) rfl rfl (Nat.le_of_ble_eq_true rfl) dX1_keep_3 ⟨Nat.le_of_ble_eq_true rfl, Nat.le_of_ble_eq_true rfl⟩ rfl ?_
  refine g_if_eq_b (tgt := 11) C dX1_keep_6 (by decide) (fun c6 => ?_) (fun c6 => ?_)
  · skip
    refine g_iconst (v := nI 0) C dX1_keep_11 (by decide) ?_
    refine g_istore_n (L' := [(3, .int (nI 0)), (0, .ref (a 0)), (1, .int (nI r)), (2, .ref (h 0))]) C dX1_keep_12 rfl (by decide) rfl ?_
    refine g_up 8 0 (fun _ => True) (fun j => [(3, .int (nI j)), (0, .ref (a 0)), (1, .int (nI r)), (2, .ref (h 0))]) (fun j => [(a 0, .inr (2, [.ref (a 1), .ref (a 2), .ref (a 3), .ref (a 4), .ref (a 5), .ref (a 6), .int sz])), (a 4, gI g 512 (cp8 dg (8 * r) ss j)), (h 0, .inr (1, [.ref (h 1), .ref (h 2), .int (nI tk)])), (h 1, gI g 8 ss), (h 2, gI g 64 ww)]) (by omega) (trivial) ?_ ?_
    · intro hPj
      try dsimp only
      refine g_iload_n C dX1_keep_13 rfl 0 rfl ?_
      refine g_bipush (v := nI 8) C dX1_keep_14 (by decide) ?_
      refine g_icmp_ge_n (tgt := 41) C dX1_keep_16 (by decide) (by omega) (by omega) (fun c16 => ?_) (fun c16 => ?_)
      · skip
        refine g_iconst (v := nI 1) C dX1_keep_41 (by decide) ?_
        refine g_iret C dX1_keep_42 (by decide) (by decide) ?_
        exact ⟨by rw [keepN, c6]; rfl, rfl⟩
      · skip
        exfalso; omega
    · intro j hlj huj hPj ihj
      try dsimp only at ihj ⊢
      refine g_iload_n C dX1_keep_13 rfl 0 rfl ?_
      refine g_bipush (v := nI 8) C dX1_keep_14 (by decide) ?_
      refine g_icmp_ge_n (tgt := 41) C dX1_keep_16 (by decide) (by omega) (by omega) (fun c16 => ?_) (fun c16 => ?_)
      · skip
        exfalso; omega
      · skip
        refine g_aload_n C dX1_keep_19 rfl 1 rfl ?_
        refine g_get C hinX1 0 rfl rfl 3 (by decide) (by decide +kernel) rfl rfl dX1_keep_20 ?_
        refine g_bipush (v := nI 8) C dX1_keep_23 (by decide) ?_
        refine g_iload_n C dX1_keep_25 rfl 2 rfl ?_
        refine g_imul_n C dX1_keep_26 ?_
        refine g_iload_n C dX1_keep_27 rfl 0 rfl ?_
        refine g_iadd_n C dX1_keep_28 ?_
        refine g_aload_n C dX1_keep_29 rfl 3 rfl ?_
        refine g_iload_n C dX1_keep_30 rfl 0 rfl ?_
        refine g_callV1 (wr := [(a 0, .inr (2, [.ref (a 1), .ref (a 2), .ref (a 3), .ref (a 4), .ref (a 5), .ref (a 6), .int sz])), (a 4, gI g 512 (cp8 dg (8 * r) ss j))]) (w2 := [(a 0, .inr (2, [.ref (a 1), .ref (a 2), .ref (a 3), .ref (a 4), .ref (a 5), .ref (a 6), .int sz])), (a 4, gI g 512 (cp8 dg (8 * r) ss j)), (h 0, .inr (1, [.ref (h 1), .ref (h 2), .int (nI tk)])), (h 1, gI g 8 ss), (h 2, gI g 64 ww)]) C (c_X0_word l g h tk ss ww j (by omega)) (cwV 1 C.2.2.2.2.1 gX1_keep_X0_word rfl rfl rfl (by decide +kernel) ⟨Nat.le_of_ble_eq_true rfl, Nat.le_of_ble_eq_true rfl⟩) 2 rfl rfl rfl [2, 3, 4] [0, 1] rfl rfl rfl rfl rfl (by decide) rfl rfl (Nat.le_of_ble_eq_true rfl) dX1_keep_31 ⟨Nat.le_of_ble_eq_true rfl, Nat.le_of_ble_eq_true rfl⟩ rfl ?_
        refine g_iast (w2 := [(a 0, .inr (2, [.ref (a 1), .ref (a 2), .ref (a 3), .ref (a 4), .ref (a 5), .ref (a 6), .int sz])), (a 4, gI g 512 (va_up (cp8 dg (8 * r) ss j) ((8 * r) + j) (ss j))), (h 0, .inr (1, [.ref (h 1), .ref (h 2), .int (nI tk)])), (h 1, gI g 8 ss), (h 2, gI g 64 ww)]) C 1 rfl (by omega) (by decide) rfl dX1_keep_34 ?_
        refine g_iinc_n (d := 1) (L' := [(3, .int (nI (j + 1))), (0, .ref (a 0)), (1, .int (nI r)), (2, .ref (h 0))]) C dX1_keep_35 0 rfl (by decide) (by decide) rfl ?_
        refine g_goto (tgt := 13) C dX1_keep_38 (by decide) ?_
        exact ihj (trivial)
  · skip
    refine g_iconst (v := nI 0) C dX1_keep_9 (by decide) ?_
    refine g_iret C dX1_keep_10 (by decide) (by decide) ?_
    exact ⟨by rw [keepN, c6]; rfl, by rw [cp8_id c6]⟩
set_option maxHeartbeats 4000000 in
set_option maxRecDepth 100000 in
theorem c_X1_countLeaf (l : Launch) (g : gE) (a : Nat → Nat) (b : Nat → Nat) (sz : Int32) (sz2 : Int32) (pr : Nat → Bool) (ho : Nat → Bool) (ho2 : Nat → Bool) (ct : Nat → Int32) (k : Nat) (hk : 32 ≤ k) (hk2 : k < 64) : Kt l g yX1_countLeaf wsX1_countLeaf 2 42 0 0 [.ref (a 0), .int (nI k), .ref (b 0)] [(a 0, .inr (2, [.ref (a 1), .ref (a 2), .ref (a 3), .ref (a 4), .ref (a 5), .ref (a 6), .int sz])), (a 1, gZ g 256 pr), (a 3, gZ g 4 ho), (a 6, gI g 64 ct), (b 0, .inr (2, [.ref (b 1), .ref (b 2), .ref (b 3), .ref (b 4), .ref (b 5), .ref (b 6), .int sz2])), (b 3, gZ g 4 ho2)] (kR none [(a 0, .inr (2, [.ref (a 1), .ref (a 2), .ref (a 3), .ref (a 4), .ref (a 5), .ref (a 6), .int sz])), (a 1, gZ g 256 pr), (a 3, gZ g 4 ho), (a 6, gI g 64 (va_up ct k (nI (cntR (qC pr ho ho2) (8 * (k - 32)) 8)))), (b 0, .inr (2, [.ref (b 1), .ref (b 2), .ref (b 3), .ref (b 4), .ref (b 5), .ref (b 6), .int sz2])), (b 3, gZ g 4 ho2)]) := by
  have hinX1 : ∀ w ∈ wsX10, w ∈ wsX1_countLeaf := by
    intro w h
    unfold wsX1_countLeaf
    simp only [List.mem_cons, List.mem_append]
    simp only [h, or_true, true_or]
  refine g_enter (cc := cX1_countLeaf) (maxL := 6) (ret := none) (own := RX1) (L := [(0, .ref (a 0)), (1, .int (nI k)), (2, .ref (b 0))]) (by decide) rfl rfl (Nat.le_of_ble_eq_true rfl) rfl ?_
  intro p e s m args below meth c hin0 C
  refine g_iload_n C dX1_countLeaf_0 rfl 1 rfl ?_
  refine g_callSN1 (wr := [(a 0, .inr (2, [.ref (a 1), .ref (a 2), .ref (a 3), .ref (a 4), .ref (a 5), .ref (a 6), .int sz])), (a 1, gZ g 256 pr), (a 3, gZ g 4 ho), (a 6, gI g 64 ct), (b 0, .inr (2, [.ref (b 1), .ref (b 2), .ref (b 3), .ref (b 4), .ref (b 5), .ref (b 6), .int sz2])), (b 3, gZ g 4 ho2)]) (w2 := [(a 0, .inr (2, [.ref (a 1), .ref (a 2), .ref (a 3), .ref (a 4), .ref (a 5), .ref (a 6), .int sz])), (a 1, gZ g 256 pr), (a 3, gZ g 4 ho), (a 6, gI g 64 ct), (b 0, .inr (2, [.ref (b 1), .ref (b 2), .ref (b 3), .ref (b 4), .ref (b 5), .ref (b 6), .int sz2])), (b 3, gZ g 4 ho2)]) C (c_X4_firstSlotOf l g k (by omega) (by omega)) ⟨va_cnB 1 C.2.2.2.2.1 gX1_countLeaf_X4_firstSlotOf_n65 rfl rfl rfl (C.2.2.2.2.2.2.2.2.2.2.2.2.2.2.2 _ (List.mem_of_getElem? (i := 0) rfl)) (C.2.2.2.2.1 _ (by decide +kernel)) (by decide +kernel) ⟨Nat.le_of_ble_eq_true rfl, Nat.le_of_ble_eq_true rfl⟩, C.2.2.2.2.1 _ (by decide +kernel), trivial⟩ [] [0, 1, 2, 3, 4, 5] rfl rfl rfl rfl rfl (by decide) rfl rfl (Nat.le_of_ble_eq_true rfl) dX1_countLeaf_1 ⟨Nat.le_of_ble_eq_true rfl, Nat.le_of_ble_eq_true rfl⟩ rfl ?_
  refine g_istore_n (L' := [(3, .int (nI (8 * (k - 32)))), (0, .ref (a 0)), (1, .int (nI k)), (2, .ref (b 0))]) C dX1_countLeaf_4 rfl (by decide) rfl ?_
  refine g_iconst (v := nI 0) C dX1_countLeaf_5 (by decide) ?_
  refine g_istore (L' := [(4, .int (nI 0)), (3, .int (nI (8 * (k - 32)))), (0, .ref (a 0)), (1, .int (nI k)), (2, .ref (b 0))]) C dX1_countLeaf_6 (by decide) rfl ?_
  refine g_iload_n C dX1_countLeaf_8 rfl 1 rfl ?_
  refine g_istore (L' := [(5, .int (nI (8 * (k - 32)))), (4, .int (nI 0)), (3, .int (nI (8 * (k - 32)))), (0, .ref (a 0)), (1, .int (nI k)), (2, .ref (b 0))]) C dX1_countLeaf_9 (by decide) rfl ?_
  refine g_up 8 0 (fun _ => True) (fun j => [(5, .int (nI (8 * (k - 32) + j))), (4, .int (nI (cntR (qC pr ho ho2) (8 * (k - 32)) j))), (3, .int (nI (8 * (k - 32)))), (0, .ref (a 0)), (1, .int (nI k)), (2, .ref (b 0))]) (fun j => [(a 0, .inr (2, [.ref (a 1), .ref (a 2), .ref (a 3), .ref (a 4), .ref (a 5), .ref (a 6), .int sz])), (a 1, gZ g 256 pr), (a 3, gZ g 4 ho), (a 6, gI g 64 ct), (b 0, .inr (2, [.ref (b 1), .ref (b 2), .ref (b 3), .ref (b 4), .ref (b 5), .ref (b 6), .int sz2])), (b 3, gZ g 4 ho2)]) (by omega) (trivial) ?_ ?_
  · intro hPj
    try dsimp only
    refine g_iload C dX1_countLeaf_11 0 rfl ?_
    refine g_iload_n C dX1_countLeaf_13 rfl 2 rfl ?_
    refine g_bipush (v := nI 8) C dX1_countLeaf_14 (by decide) ?_
    refine g_iadd_n C dX1_countLeaf_16 ?_
    refine g_icmp_ge_n (tgt := 39) C dX1_countLeaf_17 (by decide) (by omega) (by omega) (fun c17 => ?_) (fun c17 => ?_)
    · skip
      refine g_aload_n C dX1_countLeaf_39 rfl 3 rfl ?_
      refine g_get C hinX1 0 rfl rfl 5 (by decide) (by decide +kernel) rfl rfl dX1_countLeaf_40 ?_
      refine g_iload_n C dX1_countLeaf_43 rfl 4 rfl ?_
      refine g_iload C dX1_countLeaf_44 1 rfl ?_
      refine g_iast (w2 := [(a 0, .inr (2, [.ref (a 1), .ref (a 2), .ref (a 3), .ref (a 4), .ref (a 5), .ref (a 6), .int sz])), (a 1, gZ g 256 pr), (a 3, gZ g 4 ho), (a 6, gI g 64 (va_up ct k (nI (cntR (qC pr ho ho2) (8 * (k - 32)) 8)))), (b 0, .inr (2, [.ref (b 1), .ref (b 2), .ref (b 3), .ref (b 4), .ref (b 5), .ref (b 6), .int sz2])), (b 3, gZ g 4 ho2)]) C 3 rfl (by omega) (by decide) rfl dX1_countLeaf_46 ?_
      refine g_vret C dX1_countLeaf_47 (by decide) (by decide) ?_
      exact ⟨rfl, rfl⟩
    · skip
      exfalso; omega
  · intro j hlj huj hPj ihj
    try dsimp only at ihj ⊢
    refine g_iload C dX1_countLeaf_11 0 rfl ?_
    refine g_iload_n C dX1_countLeaf_13 rfl 2 rfl ?_
    refine g_bipush (v := nI 8) C dX1_countLeaf_14 (by decide) ?_
    refine g_iadd_n C dX1_countLeaf_16 ?_
    refine g_icmp_ge_n (tgt := 39) C dX1_countLeaf_17 (by decide) (by omega) (by omega) (fun c17 => ?_) (fun c17 => ?_)
    · skip
      exfalso; omega
    · skip
      refine g_aload_n C dX1_countLeaf_20 rfl 3 rfl ?_
      refine g_iload C dX1_countLeaf_21 0 rfl ?_
      refine g_aload_n C dX1_countLeaf_23 rfl 5 rfl ?_
      refine g_callV1 (wr := [(a 6, gI g 64 ct)]) (w2 := [(a 6, gI g 64 ct), (a 0, .inr (2, [.ref (a 1), .ref (a 2), .ref (a 3), .ref (a 4), .ref (a 5), .ref (a 6), .int sz])), (a 1, gZ g 256 pr), (a 3, gZ g 4 ho), (b 0, .inr (2, [.ref (b 1), .ref (b 2), .ref (b 3), .ref (b 4), .ref (b 5), .ref (b 6), .int sz2])), (b 3, gZ g 4 ho2)]) C (c_X1_hasCounting l g a b sz sz2 pr ho ho2 (8 * (k - 32) + j) (by omega)) (cwV 2 C.2.2.2.2.1 gX1_countLeaf_X1_hasCounting rfl rfl rfl (by decide +kernel) ⟨Nat.le_of_ble_eq_true rfl, Nat.le_of_ble_eq_true rfl⟩) 0 rfl rfl rfl [0, 1, 2, 4, 5] [3] rfl rfl rfl rfl rfl (by decide) rfl rfl (Nat.le_of_ble_eq_true rfl) dX1_countLeaf_24 ⟨Nat.le_of_ble_eq_true rfl, Nat.le_of_ble_eq_true rfl⟩ rfl ?_
      refine g_if_eq_b (tgt := 33) C dX1_countLeaf_27 (by decide) (fun c27 => ?_) (fun c27 => ?_)
      · skip
        rw [cntR_f c27] at ihj
        refine g_iinc_n (d := 1) (L' := [(5, .int (nI ((8 * (k - 32) + j) + 1))), (4, .int (nI (cntR (qC pr ho ho2) (8 * (k - 32)) j))), (3, .int (nI (8 * (k - 32)))), (0, .ref (a 0)), (1, .int (nI k)), (2, .ref (b 0))]) C dX1_countLeaf_33 0 rfl (by decide) (by decide) rfl ?_
        refine g_goto (tgt := 11) C dX1_countLeaf_36 (by decide) ?_
        refine g_perm (w2 := [(a 0, .inr (2, [.ref (a 1), .ref (a 2), .ref (a 3), .ref (a 4), .ref (a 5), .ref (a 6), .int sz])), (a 1, gZ g 256 pr), (a 3, gZ g 4 ho), (a 6, gI g 64 ct), (b 0, .inr (2, [.ref (b 1), .ref (b 2), .ref (b 3), .ref (b 4), .ref (b 5), .ref (b 6), .int sz2])), (b 3, gZ g 4 ho2)]) [1, 2, 3, 0, 4, 5] rfl rfl rfl ?_
        exact ihj (trivial)
      · skip
        rw [cntR_t c27] at ihj
        refine g_iinc_n (d := 1) (L' := [(4, .int (nI ((cntR (qC pr ho ho2) (8 * (k - 32)) j) + 1))), (5, .int (nI (8 * (k - 32) + j))), (3, .int (nI (8 * (k - 32)))), (0, .ref (a 0)), (1, .int (nI k)), (2, .ref (b 0))]) C dX1_countLeaf_30 1 rfl (by decide) (by decide) rfl ?_
        refine g_iinc_n (d := 1) (L' := [(5, .int (nI ((8 * (k - 32) + j) + 1))), (4, .int (nI ((cntR (qC pr ho ho2) (8 * (k - 32)) j) + 1))), (3, .int (nI (8 * (k - 32)))), (0, .ref (a 0)), (1, .int (nI k)), (2, .ref (b 0))]) C dX1_countLeaf_33 1 rfl (by decide) (by decide) rfl ?_
        refine g_goto (tgt := 11) C dX1_countLeaf_36 (by decide) ?_
        refine g_perm (w2 := [(a 0, .inr (2, [.ref (a 1), .ref (a 2), .ref (a 3), .ref (a 4), .ref (a 5), .ref (a 6), .int sz])), (a 1, gZ g 256 pr), (a 3, gZ g 4 ho), (a 6, gI g 64 ct), (b 0, .inr (2, [.ref (b 1), .ref (b 2), .ref (b 3), .ref (b 4), .ref (b 5), .ref (b 6), .int sz2])), (b 3, gZ g 4 ho2)]) [1, 2, 3, 0, 4, 5] rfl rfl rfl ?_
        exact ihj (trivial)
set_option maxHeartbeats 4000000 in
set_option maxRecDepth 100000 in
theorem c_X1_leafSum (l : Launch) (g : gE) (a : Nat → Nat) (sz : Int32) (pr : Nat → Bool) (va : Nat → Int64) (ct : Nat → Int32) (k : Nat) (hk : 32 ≤ k) (hk2 : k < 64) : Kt l g yX1_leafSum wsX1_leafSum 3 70 0 0 [.ref (a 0), .int (nI k)] [(a 0, .inr (2, [.ref (a 1), .ref (a 2), .ref (a 3), .ref (a 4), .ref (a 5), .ref (a 6), .int sz])), (a 1, gZ g 256 pr), (a 2, gJ g 256 va), (a 6, gI g 64 ct)] (kR (some (.int (leafSumV ct pr va k))) [(a 0, .inr (2, [.ref (a 1), .ref (a 2), .ref (a 3), .ref (a 4), .ref (a 5), .ref (a 6), .int sz])), (a 1, gZ g 256 pr), (a 2, gJ g 256 va), (a 6, gI g 64 ct)]) := by
  have hinX1 : ∀ w ∈ wsX10, w ∈ wsX1_leafSum := by
    intro w h
    unfold wsX1_leafSum
    simp only [List.mem_cons, List.mem_append]
    simp only [h, or_true, true_or]
  refine g_enter (cc := cX1_leafSum) (maxL := 5) (ret := (some .int)) (own := RX1) (L := [(0, .ref (a 0)), (1, .int (nI k))]) (by decide) rfl rfl (Nat.le_of_ble_eq_true rfl) rfl ?_
  intro p e s m args below meth c hin0 C
  refine g_aload_n C dX1_leafSum_0 rfl 0 rfl ?_
  refine g_get C hinX1 0 rfl rfl 5 (by decide) (by decide +kernel) rfl rfl dX1_leafSum_1 ?_
  refine g_iload_n C dX1_leafSum_4 rfl 1 rfl ?_
  refine g_iald C 3 rfl (by omega) (by decide) dX1_leafSum_5 ?_
  refine g_if_ne (tgt := 11) C dX1_leafSum_6 (by decide) (fun c6 => ?_) (fun c6 => ?_)
  · skip
    refine g_iload_n C dX1_leafSum_11 rfl 1 rfl ?_
    refine g_callSN1 (wr := [(a 0, .inr (2, [.ref (a 1), .ref (a 2), .ref (a 3), .ref (a 4), .ref (a 5), .ref (a 6), .int sz])), (a 1, gZ g 256 pr), (a 2, gJ g 256 va), (a 6, gI g 64 ct)]) (w2 := [(a 0, .inr (2, [.ref (a 1), .ref (a 2), .ref (a 3), .ref (a 4), .ref (a 5), .ref (a 6), .int sz])), (a 1, gZ g 256 pr), (a 2, gJ g 256 va), (a 6, gI g 64 ct)]) C (c_X4_firstSlotOf l g k (by omega) (by omega)) ⟨va_cnB 1 C.2.2.2.2.1 gX1_leafSum_X4_firstSlotOf_n65 rfl rfl rfl (C.2.2.2.2.2.2.2.2.2.2.2.2.2.2.2 _ (List.mem_of_getElem? (i := 0) rfl)) (C.2.2.2.2.1 _ (by decide +kernel)) (by decide +kernel) ⟨Nat.le_of_ble_eq_true rfl, Nat.le_of_ble_eq_true rfl⟩, C.2.2.2.2.1 _ (by decide +kernel), trivial⟩ [] [0, 1, 2, 3] rfl rfl rfl rfl rfl (by decide) rfl rfl (Nat.le_of_ble_eq_true rfl) dX1_leafSum_12 ⟨Nat.le_of_ble_eq_true rfl, Nat.le_of_ble_eq_true rfl⟩ rfl ?_
    refine g_istore_n (L' := [(2, .int (nI (8 * (k - 32)))), (0, .ref (a 0)), (1, .int (nI k))]) C dX1_leafSum_15 rfl (by decide) rfl ?_
    refine g_iconst (v := nI 0) C dX1_leafSum_16 (by decide) ?_
    refine g_istore_n (L' := [(3, .int (nI 0)), (2, .int (nI (8 * (k - 32)))), (0, .ref (a 0)), (1, .int (nI k))]) C dX1_leafSum_17 rfl (by decide) rfl ?_
    refine g_iload_n C dX1_leafSum_18 rfl 1 rfl ?_
    refine g_istore (L' := [(4, .int (nI (8 * (k - 32)))), (3, .int (nI 0)), (2, .int (nI (8 * (k - 32)))), (0, .ref (a 0)), (1, .int (nI k))]) C dX1_leafSum_19 (by decide) rfl ?_
    refine g_up 8 0 (fun _ => True) (fun j => [(4, .int (nI (8 * (k - 32) + j))), (3, .int (sumF pr va (8 * (k - 32)) j)), (2, .int (nI (8 * (k - 32)))), (0, .ref (a 0)), (1, .int (nI k))]) (fun j => [(a 0, .inr (2, [.ref (a 1), .ref (a 2), .ref (a 3), .ref (a 4), .ref (a 5), .ref (a 6), .int sz])), (a 1, gZ g 256 pr), (a 2, gJ g 256 va), (a 6, gI g 64 ct)]) (by omega) (trivial) ?_ ?_
    · intro hPj
      try dsimp only
      refine g_iload C dX1_leafSum_21 0 rfl ?_
      refine g_iload_n C dX1_leafSum_23 rfl 2 rfl ?_
      refine g_bipush (v := nI 8) C dX1_leafSum_24 (by decide) ?_
      refine g_iadd_n C dX1_leafSum_26 ?_
      refine g_icmp_ge_n (tgt := 60) C dX1_leafSum_27 (by decide) (by omega) (by omega) (fun c27 => ?_) (fun c27 => ?_)
      · skip
        refine g_iload_n C dX1_leafSum_60 rfl 1 rfl ?_
        refine g_iret C dX1_leafSum_61 (by decide) (by decide) ?_
        exact ⟨by rw [leafSumV, if_neg c6], rfl⟩
      · skip
        exfalso; omega
    · intro j hlj huj hPj ihj
      try dsimp only at ihj ⊢
      refine g_iload C dX1_leafSum_21 0 rfl ?_
      refine g_iload_n C dX1_leafSum_23 rfl 2 rfl ?_
      refine g_bipush (v := nI 8) C dX1_leafSum_24 (by decide) ?_
      refine g_iadd_n C dX1_leafSum_26 ?_
      refine g_icmp_ge_n (tgt := 60) C dX1_leafSum_27 (by decide) (by omega) (by omega) (fun c27 => ?_) (fun c27 => ?_)
      · skip
        exfalso; omega
      · skip
        refine g_aload_n C dX1_leafSum_30 rfl 3 rfl ?_
        refine g_get C hinX1 0 rfl rfl 0 (by decide) (by decide +kernel) rfl rfl dX1_leafSum_31 ?_
        refine g_iload C dX1_leafSum_34 0 rfl ?_
        refine g_zald C 1 rfl (by omega) (by decide) dX1_leafSum_36 ?_
        refine g_if_eq_b (tgt := 54) C dX1_leafSum_37 (by decide) (fun c37 => ?_) (fun c37 => ?_)
        · skip
          rw [sumF_f c37] at ihj
          refine g_iinc_n (d := 1) (L' := [(4, .int (nI ((8 * (k - 32) + j) + 1))), (3, .int (sumF pr va (8 * (k - 32)) j)), (2, .int (nI (8 * (k - 32)))), (0, .ref (a 0)), (1, .int (nI k))]) C dX1_leafSum_54 0 rfl (by decide) (by decide) rfl ?_
          refine g_goto (tgt := 21) C dX1_leafSum_57 (by decide) ?_
          exact ihj (trivial)
        · skip
          rw [sumF_t c37] at ihj
          refine g_iload_n C dX1_leafSum_40 rfl 1 rfl ?_
          refine g_iload C dX1_leafSum_41 0 rfl ?_
          refine g_aload_n C dX1_leafSum_43 rfl 3 rfl ?_
          refine g_get C hinX1 0 rfl rfl 1 (by decide) (by decide +kernel) rfl rfl dX1_leafSum_44 ?_
          refine g_iload C dX1_leafSum_47 0 rfl ?_
          refine g_lald C 2 rfl (by omega) (by decide) dX1_leafSum_49 ?_
          refine g_callSN1 (wr := [(a 0, .inr (2, [.ref (a 1), .ref (a 2), .ref (a 3), .ref (a 4), .ref (a 5), .ref (a 6), .int sz])), (a 1, gZ g 256 pr), (a 2, gJ g 256 va), (a 6, gI g 64 ct)]) (w2 := [(a 0, .inr (2, [.ref (a 1), .ref (a 2), .ref (a 3), .ref (a 4), .ref (a 5), .ref (a 6), .int sz])), (a 1, gZ g 256 pr), (a 2, gJ g 256 va), (a 6, gI g 64 ct)]) C (c_X4_mixRow l g (sumF pr va (8 * (k - 32)) j) (8 * (k - 32) + j) (va (8 * (k - 32) + j)) (by omega)) ⟨va_cnB 3 C.2.2.2.2.1 gX1_leafSum_X4_mixRow_n72 rfl rfl rfl (C.2.2.2.2.2.2.2.2.2.2.2.2.2.2.2 _ (List.mem_of_getElem? (i := 2) rfl)) (C.2.2.2.2.1 _ (by decide +kernel)) (by decide +kernel) ⟨Nat.le_of_ble_eq_true rfl, Nat.le_of_ble_eq_true rfl⟩, C.2.2.2.2.1 _ (by decide +kernel), trivial⟩ [] [0, 1, 2, 3] rfl rfl rfl rfl rfl (by decide) rfl rfl (Nat.le_of_ble_eq_true rfl) dX1_leafSum_50 ⟨Nat.le_of_ble_eq_true rfl, Nat.le_of_ble_eq_true rfl⟩ rfl ?_
          refine g_istore_n (L' := [(3, .int (mixR (sumF pr va (8 * (k - 32)) j) (8 * (k - 32) + j) (va (8 * (k - 32) + j)))), (4, .int (nI (8 * (k - 32) + j))), (2, .int (nI (8 * (k - 32)))), (0, .ref (a 0)), (1, .int (nI k))]) C dX1_leafSum_53 rfl (by decide) rfl ?_
          refine g_iinc_n (d := 1) (L' := [(4, .int (nI ((8 * (k - 32) + j) + 1))), (3, .int (mixR (sumF pr va (8 * (k - 32)) j) (8 * (k - 32) + j) (va (8 * (k - 32) + j)))), (2, .int (nI (8 * (k - 32)))), (0, .ref (a 0)), (1, .int (nI k))]) C dX1_leafSum_54 1 rfl (by decide) (by decide) rfl ?_
          refine g_goto (tgt := 21) C dX1_leafSum_57 (by decide) ?_
          exact ihj (trivial)
  · skip
    refine g_iconst (v := nI 0) C dX1_leafSum_9 (by decide) ?_
    refine g_iret C dX1_leafSum_10 (by decide) (by decide) ?_
    exact ⟨by rw [leafSumV, if_pos c6], rfl⟩
set_option maxHeartbeats 4000000 in
set_option maxRecDepth 100000 in
theorem c_X1_innerSum (l : Launch) (g : gE) (a : Nat → Nat) (sz : Int32) (sm : Nat → Int32) (ct : Nat → Int32) (r : Nat) (hk : 1 ≤ r) (hk2 : r < 32) : Kt l g yX1_innerSum wsX1_innerSum 2 47 0 0 [.ref (a 0), .int (nI r)] [(a 0, .inr (2, [.ref (a 1), .ref (a 2), .ref (a 3), .ref (a 4), .ref (a 5), .ref (a 6), .int sz])), (a 5, gI g 64 sm), (a 6, gI g 64 ct)] (kR (some (.int (innerSumV ct sm r))) [(a 0, .inr (2, [.ref (a 1), .ref (a 2), .ref (a 3), .ref (a 4), .ref (a 5), .ref (a 6), .int sz])), (a 5, gI g 64 sm), (a 6, gI g 64 ct)]) := by
  have hinX1 : ∀ w ∈ wsX10, w ∈ wsX1_innerSum := by
    intro w h
    unfold wsX1_innerSum
    simp only [List.mem_cons, List.mem_append]
    simp only [h, or_true, true_or]
  refine g_enter (cc := cX1_innerSum) (maxL := 2) (ret := (some .int)) (own := RX1) (L := [(0, .ref (a 0)), (1, .int (nI r))]) (by decide) rfl rfl (Nat.le_of_ble_eq_true rfl) rfl ?_
  intro p e s m args below meth c hin0 C
  refine g_aload_n C dX1_innerSum_0 rfl 0 rfl ?_
  refine g_get C hinX1 0 rfl rfl 5 (by decide) (by decide +kernel) rfl rfl dX1_innerSum_1 ?_
  refine g_iload_n C dX1_innerSum_4 rfl 1 rfl ?_
  refine g_iald C 2 rfl (by omega) (by decide) dX1_innerSum_5 ?_
  refine g_if_ne (tgt := 11) C dX1_innerSum_6 (by decide) (fun c6 => ?_) (fun c6 => ?_)
  · skip
    refine g_iconst (v := nI 0) C dX1_innerSum_11 (by decide) ?_
    refine g_aload_n C dX1_innerSum_12 rfl 0 rfl ?_
    refine g_get C hinX1 0 rfl rfl 4 (by decide) (by decide +kernel) rfl rfl dX1_innerSum_13 ?_
    refine g_iconst (v := nI 2) C dX1_innerSum_16 (by decide) ?_
    refine g_iload_n C dX1_innerSum_17 rfl 1 rfl ?_
    refine g_imul_n C dX1_innerSum_18 ?_
    refine g_iald C 1 rfl (by omega) (by decide) dX1_innerSum_19 ?_
    refine g_i2l C dX1_innerSum_20 ?_
    refine g_iconst (v := nI 4) C dX1_innerSum_21 (by decide) ?_
    refine g_callSN1 (wr := [(a 0, .inr (2, [.ref (a 1), .ref (a 2), .ref (a 3), .ref (a 4), .ref (a 5), .ref (a 6), .int sz])), (a 5, gI g 64 sm), (a 6, gI g 64 ct)]) (w2 := [(a 0, .inr (2, [.ref (a 1), .ref (a 2), .ref (a 3), .ref (a 4), .ref (a 5), .ref (a 6), .int sz])), (a 5, gI g 64 sm), (a 6, gI g 64 ct)]) C (c_X4_mix l g (nI 0) (Int32.toInt64 (sm (2 * r))) 4 (by omega)) ⟨va_cnB 3 C.2.2.2.2.1 gX1_innerSum_X4_mix_n76 rfl rfl rfl (C.2.2.2.2.2.2.2.2.2.2.2.2.2.2.2 _ (List.mem_of_getElem? (i := 4) rfl)) (C.2.2.2.2.1 _ (by decide +kernel)) (by decide +kernel) ⟨Nat.le_of_ble_eq_true rfl, Nat.le_of_ble_eq_true rfl⟩, C.2.2.2.2.1 _ (by decide +kernel), trivial⟩ [] [0, 1, 2] rfl rfl rfl rfl rfl (by decide) rfl rfl (Nat.le_of_ble_eq_true rfl) dX1_innerSum_22 ⟨Nat.le_of_ble_eq_true rfl, Nat.le_of_ble_eq_true rfl⟩ rfl ?_
    refine g_aload_n C dX1_innerSum_25 rfl 0 rfl ?_
    refine g_get C hinX1 0 rfl rfl 4 (by decide) (by decide +kernel) rfl rfl dX1_innerSum_26 ?_
    refine g_iconst (v := nI 2) C dX1_innerSum_29 (by decide) ?_
    refine g_iload_n C dX1_innerSum_30 rfl 1 rfl ?_
    refine g_imul_n C dX1_innerSum_31 ?_
    refine g_iconst (v := nI 1) C dX1_innerSum_32 (by decide) ?_
    refine g_iadd_n C dX1_innerSum_33 ?_
    refine g_iald C 1 rfl (by omega) (by decide) dX1_innerSum_34 ?_
    refine g_i2l C dX1_innerSum_35 ?_
    refine g_iconst (v := nI 4) C dX1_innerSum_36 (by decide) ?_
    refine g_callSN1 (wr := [(a 0, .inr (2, [.ref (a 1), .ref (a 2), .ref (a 3), .ref (a 4), .ref (a 5), .ref (a 6), .int sz])), (a 5, gI g 64 sm), (a 6, gI g 64 ct)]) (w2 := [(a 0, .inr (2, [.ref (a 1), .ref (a 2), .ref (a 3), .ref (a 4), .ref (a 5), .ref (a 6), .int sz])), (a 5, gI g 64 sm), (a 6, gI g 64 ct)]) C (c_X4_mix l g (mixL (Int32.toInt64 (sm (2 * r))) 4 (nI 0)) (Int32.toInt64 (sm ((2 * r) + 1))) 4 (by omega)) ⟨va_cnB 3 C.2.2.2.2.1 gX1_innerSum_X4_mix_n76 rfl rfl rfl (C.2.2.2.2.2.2.2.2.2.2.2.2.2.2.2 _ (List.mem_of_getElem? (i := 4) rfl)) (C.2.2.2.2.1 _ (by decide +kernel)) (by decide +kernel) ⟨Nat.le_of_ble_eq_true rfl, Nat.le_of_ble_eq_true rfl⟩, C.2.2.2.2.1 _ (by decide +kernel), trivial⟩ [] [0, 1, 2] rfl rfl rfl rfl rfl (by decide) rfl rfl (Nat.le_of_ble_eq_true rfl) dX1_innerSum_37 ⟨Nat.le_of_ble_eq_true rfl, Nat.le_of_ble_eq_true rfl⟩ rfl ?_
    refine g_iret C dX1_innerSum_40 (by decide) (by decide) ?_
    exact ⟨by rw [innerSumV, if_neg c6], rfl⟩
  · skip
    refine g_iconst (v := nI 0) C dX1_innerSum_9 (by decide) ?_
    refine g_iret C dX1_innerSum_10 (by decide) (by decide) ?_
    exact ⟨by rw [innerSumV, if_pos c6], rfl⟩
set_option maxHeartbeats 4000000 in
set_option maxRecDepth 100000 in
theorem c_X1_hashLeaf (l : Launch) (g : gE) (a : Nat → Nat) (h : Nat → Nat) (sz : Int32) (pr : Nat → Bool) (va : Nat → Int64) (ct : Nat → Int32) (tk : Nat) (ss : Nat → Int32) (ww : Nat → Int32) (k : Nat) (hk : 32 ≤ k) (hk2 : k < 64) : Kt l g yX1_hashLeaf wsX1_hashLeaf 4 102 0 0 [.ref (a 0), .int (nI k), .ref (h 0)] [(a 0, .inr (2, [.ref (a 1), .ref (a 2), .ref (a 3), .ref (a 4), .ref (a 5), .ref (a 6), .int sz])), (a 1, gZ g 256 pr), (a 2, gJ g 256 va), (a 6, gI g 64 ct), (h 0, .inr (1, [.ref (h 1), .ref (h 2), .int (nI tk)])), (h 1, gI g 8 ss), (h 2, gI g 64 ww)] (kR none [(a 0, .inr (2, [.ref (a 1), .ref (a 2), .ref (a 3), .ref (a 4), .ref (a 5), .ref (a 6), .int sz])), (a 1, gZ g 256 pr), (a 2, gJ g 256 va), (a 6, gI g 64 ct), (h 0, .inr (1, [.ref (h 1), .ref (h 2), .int (nI ((hashL (ct k) pr va (8 * (k - 32)) (tk, (ss, ww))).1))])), (h 1, gI g 8 ((hashL (ct k) pr va (8 * (k - 32)) (tk, (ss, ww))).2.1)), (h 2, gI g 64 ((hashL (ct k) pr va (8 * (k - 32)) (tk, (ss, ww))).2.2))]) := by
  have hinX1 : ∀ w ∈ wsX10, w ∈ wsX1_hashLeaf := by
    intro w h
    unfold wsX1_hashLeaf
    simp only [List.mem_cons, List.mem_append]
    simp only [h, or_true, true_or]
  refine g_enter (cc := cX1_hashLeaf) (maxL := 5) (ret := none) (own := RX1) (L := [(0, .ref (a 0)), (1, .int (nI k)), (2, .ref (h 0))]) (by decide) rfl rfl (Nat.le_of_ble_eq_true rfl) rfl ?_
  intro p e s m args below meth c hin0 C
  refine g_aload_n C dX1_hashLeaf_0 rfl 0 rfl ?_
  refine g_get C hinX1 0 rfl rfl 5 (by decide) (by decide +kernel) rfl rfl dX1_hashLeaf_1 ?_
  refine g_iload_n C dX1_hashLeaf_4 rfl 1 rfl ?_
  refine g_iald C 3 rfl (by omega) (by decide) dX1_hashLeaf_5 ?_
  refine g_if_ne (tgt := 14) C dX1_hashLeaf_6 (by decide) (fun c6 => ?_) (fun c6 => ?_)
  · skip
    refine g_iload_n C dX1_hashLeaf_14 rfl 1 rfl ?_
    refine g_callSN1 (wr := [(a 0, .inr (2, [.ref (a 1), .ref (a 2), .ref (a 3), .ref (a 4), .ref (a 5), .ref (a 6), .int sz])), (a 1, gZ g 256 pr), (a 2, gJ g 256 va), (a 6, gI g 64 ct), (h 0, .inr (1, [.ref (h 1), .ref (h 2), .int (nI tk)])), (h 1, gI g 8 ss), (h 2, gI g 64 ww)]) (w2 := [(a 0, .inr (2, [.ref (a 1), .ref (a 2), .ref (a 3), .ref (a 4), .ref (a 5), .ref (a 6), .int sz])), (a 1, gZ g 256 pr), (a 2, gJ g 256 va), (a 6, gI g 64 ct), (h 0, .inr (1, [.ref (h 1), .ref (h 2), .int (nI tk)])), (h 1, gI g 8 ss), (h 2, gI g 64 ww)]) C (c_X4_firstSlotOf l g k (by omega) (by omega)) ⟨va_cnB 1 C.2.2.2.2.1 gX1_hashLeaf_X4_firstSlotOf_n65 rfl rfl rfl (C.2.2.2.2.2.2.2.2.2.2.2.2.2.2.2 _ (List.mem_of_getElem? (i := 0) rfl)) (C.2.2.2.2.1 _ (by decide +kernel)) (by decide +kernel) ⟨Nat.le_of_ble_eq_true rfl, Nat.le_of_ble_eq_true rfl⟩, C.2.2.2.2.1 _ (by decide +kernel), trivial⟩ [] [0, 1, 2, 3, 4, 5, 6] rfl rfl rfl rfl rfl (by decide) rfl rfl (Nat.le_of_ble_eq_true rfl) dX1_hashLeaf_15 ⟨Nat.le_of_ble_eq_true rfl, Nat.le_of_ble_eq_true rfl⟩ rfl ?_
    refine g_istore_n (L' := [(3, .int (nI (8 * (k - 32)))), (0, .ref (a 0)), (1, .int (nI k)), (2, .ref (h 0))]) C dX1_hashLeaf_18 rfl (by decide) rfl ?_
    refine g_aload_n C dX1_hashLeaf_19 rfl 3 rfl ?_
    refine g_callV0 (wr := [(a 0, .inr (2, [.ref (a 1), .ref (a 2), .ref (a 3), .ref (a 4), .ref (a 5), .ref (a 6), .int sz])), (a 1, gZ g 256 pr), (a 2, gJ g 256 va), (a 6, gI g 64 ct)]) (w2 := [(a 0, .inr (2, [.ref (a 1), .ref (a 2), .ref (a 3), .ref (a 4), .ref (a 5), .ref (a 6), .int sz])), (a 1, gZ g 256 pr), (a 2, gJ g 256 va), (a 6, gI g 64 ct), (h 0, .inr (1, [.ref (h 1), .ref (h 2), .int (nI 0)])), (h 1, gI g 8 (va_cpy sha_H ss 0 0 8)), (h 2, gI g 64 ww)]) C (c_X0_start l g h tk ss ww) (cwV 0 C.2.2.2.2.1 gX1_hashLeaf_X0_start rfl rfl rfl (by decide +kernel) ⟨Nat.le_of_ble_eq_true rfl, Nat.le_of_ble_eq_true rfl⟩) 4 rfl rfl rfl [4, 5, 6] [0, 1, 2, 3] rfl rfl rfl rfl rfl (by decide) rfl rfl (Nat.le_of_ble_eq_true rfl) dX1_hashLeaf_20 ⟨Nat.le_of_ble_eq_true rfl, Nat.le_of_ble_eq_true rfl⟩ rfl ?_
    refine g_iload_n C dX1_hashLeaf_23 rfl 0 rfl ?_
    refine g_istore (L' := [(4, .int (nI (8 * (k - 32)))), (3, .int (nI (8 * (k - 32)))), (0, .ref (a 0)), (1, .int (nI k)), (2, .ref (h 0))]) C dX1_hashLeaf_24 (by decide) rfl ?_
    refine g_up 8 0 (fun _ => True) (fun j => [(4, .int (nI (8 * (k - 32) + j))), (3, .int (nI (8 * (k - 32)))), (0, .ref (a 0)), (1, .int (nI k)), (2, .ref (h 0))]) (fun j => [(a 0, .inr (2, [.ref (a 1), .ref (a 2), .ref (a 3), .ref (a 4), .ref (a 5), .ref (a 6), .int sz])), (a 1, gZ g 256 pr), (a 2, gJ g 256 va), (a 6, gI g 64 ct), (h 0, .inr (1, [.ref (h 1), .ref (h 2), .int (nI ((hlL pr va (8 * (k - 32)) (st0 (tk, (ss, ww))) j).1))])), (h 1, gI g 8 ((hlL pr va (8 * (k - 32)) (st0 (tk, (ss, ww))) j).2.1)), (h 2, gI g 64 ((hlL pr va (8 * (k - 32)) (st0 (tk, (ss, ww))) j).2.2))]) (by omega) (trivial) ?_ ?_
    · intro hPj
      try dsimp only
      have hb := hlL_le pr va (8 * (k - 32)) (va_cpy sha_H ss 0 0 8, ww) 8
      change (hlL pr va (8 * (k - 32)) (st0 (tk, (ss, ww))) 8).1 ≤ _ at hb
      refine g_iload C dX1_hashLeaf_26 0 rfl ?_
      refine g_iload_n C dX1_hashLeaf_28 rfl 1 rfl ?_
      refine g_bipush (v := nI 8) C dX1_hashLeaf_29 (by decide) ?_
      refine g_iadd_n C dX1_hashLeaf_31 ?_
      refine g_icmp_ge_n (tgt := 86) C dX1_hashLeaf_32 (by decide) (by omega) (by omega) (fun c32 => ?_) (fun c32 => ?_)
      · skip
        refine g_aload_n C dX1_hashLeaf_86 rfl 4 rfl ?_
        refine g_callV0 (wr := [(a 0, .inr (2, [.ref (a 1), .ref (a 2), .ref (a 3), .ref (a 4), .ref (a 5), .ref (a 6), .int sz])), (a 1, gZ g 256 pr), (a 2, gJ g 256 va), (a 6, gI g 64 ct)]) (w2 := [(a 0, .inr (2, [.ref (a 1), .ref (a 2), .ref (a 3), .ref (a 4), .ref (a 5), .ref (a 6), .int sz])), (a 1, gZ g 256 pr), (a 2, gJ g 256 va), (a 6, gI g 64 ct), (h 0, .inr (1, [.ref (h 1), .ref (h 2), .int (nI (((hlL pr va (8 * (k - 32)) (st0 (tk, (ss, ww))) 8).1) + 1 + zN ((hlL pr va (8 * (k - 32)) (st0 (tk, (ss, ww))) 8).1) + 8))])), (h 1, gI g 8 ((finS ((hlL pr va (8 * (k - 32)) (st0 (tk, (ss, ww))) 8).1) (((hlL pr va (8 * (k - 32)) (st0 (tk, (ss, ww))) 8).2.1), ((hlL pr va (8 * (k - 32)) (st0 (tk, (ss, ww))) 8).2.2))).1)), (h 2, gI g 64 ((finS ((hlL pr va (8 * (k - 32)) (st0 (tk, (ss, ww))) 8).1) (((hlL pr va (8 * (k - 32)) (st0 (tk, (ss, ww))) 8).2.1), ((hlL pr va (8 * (k - 32)) (st0 (tk, (ss, ww))) 8).2.2))).2))]) C (c_X0_finish l g h ((hlL pr va (8 * (k - 32)) (st0 (tk, (ss, ww))) 8).1) ((hlL pr va (8 * (k - 32)) (st0 (tk, (ss, ww))) 8).2.1) ((hlL pr va (8 * (k - 32)) (st0 (tk, (ss, ww))) 8).2.2) (by omega)) (cwV 0 C.2.2.2.2.1 gX1_hashLeaf_X0_finish rfl rfl rfl (by decide +kernel) ⟨Nat.le_of_ble_eq_true rfl, Nat.le_of_ble_eq_true rfl⟩) 4 rfl rfl rfl [4, 5, 6] [0, 1, 2, 3] rfl rfl rfl rfl rfl (by decide) rfl rfl (Nat.le_of_ble_eq_true rfl) dX1_hashLeaf_87 ⟨Nat.le_of_ble_eq_true rfl, Nat.le_of_ble_eq_true rfl⟩ rfl ?_
        refine g_vret C dX1_hashLeaf_90 (by decide) (by decide) ?_
        exact ⟨rfl, by rw [hashL, if_neg c6]; rfl⟩
      · skip
        exfalso; omega
    · intro j hlj huj hPj ihj
      try dsimp only at ihj ⊢
      have hb := hlL_le pr va (8 * (k - 32)) (va_cpy sha_H ss 0 0 8, ww) j
      change (hlL pr va (8 * (k - 32)) (st0 (tk, (ss, ww))) j).1 ≤ _ at hb
      refine g_iload C dX1_hashLeaf_26 0 rfl ?_
      refine g_iload_n C dX1_hashLeaf_28 rfl 1 rfl ?_
      refine g_bipush (v := nI 8) C dX1_hashLeaf_29 (by decide) ?_
      refine g_iadd_n C dX1_hashLeaf_31 ?_
      refine g_icmp_ge_n (tgt := 86) C dX1_hashLeaf_32 (by decide) (by omega) (by omega) (fun c32 => ?_) (fun c32 => ?_)
      · skip
        exfalso; omega
      · skip
        refine g_aload_n C dX1_hashLeaf_35 rfl 2 rfl ?_
        refine g_get C hinX1 0 rfl rfl 0 (by decide) (by decide +kernel) rfl rfl dX1_hashLeaf_36 ?_
        refine g_iload C dX1_hashLeaf_39 0 rfl ?_
        refine g_zald C 1 rfl (by omega) (by decide) dX1_hashLeaf_41 ?_
        refine g_if_eq_b (tgt := 80) C dX1_hashLeaf_42 (by decide) (fun c42 => ?_) (fun c42 => ?_)
        · skip
          rw [hlL_f c42] at ihj
          refine g_iinc_n (d := 1) (L' := [(4, .int (nI ((8 * (k - 32) + j) + 1))), (3, .int (nI (8 * (k - 32)))), (0, .ref (a 0)), (1, .int (nI k)), (2, .ref (h 0))]) C dX1_hashLeaf_80 0 rfl (by decide) (by decide) rfl ?_
          refine g_goto (tgt := 26) C dX1_hashLeaf_83 (by decide) ?_
          exact ihj (trivial)
        · skip
          rw [hlL_t c42] at ihj
          refine g_aload_n C dX1_hashLeaf_45 rfl 4 rfl ?_
          refine g_iload C dX1_hashLeaf_46 0 rfl ?_
          refine g_callSN1 (wr := [(a 0, .inr (2, [.ref (a 1), .ref (a 2), .ref (a 3), .ref (a 4), .ref (a 5), .ref (a 6), .int sz])), (a 1, gZ g 256 pr), (a 2, gJ g 256 va), (a 6, gI g 64 ct), (h 0, .inr (1, [.ref (h 1), .ref (h 2), .int (nI ((hlL pr va (8 * (k - 32)) (st0 (tk, (ss, ww))) j).1))])), (h 1, gI g 8 ((hlL pr va (8 * (k - 32)) (st0 (tk, (ss, ww))) j).2.1)), (h 2, gI g 64 ((hlL pr va (8 * (k - 32)) (st0 (tk, (ss, ww))) j).2.2))]) (w2 := [(a 0, .inr (2, [.ref (a 1), .ref (a 2), .ref (a 3), .ref (a 4), .ref (a 5), .ref (a 6), .int sz])), (a 1, gZ g 256 pr), (a 2, gJ g 256 va), (a 6, gI g 64 ct), (h 0, .inr (1, [.ref (h 1), .ref (h 2), .int (nI ((hlL pr va (8 * (k - 32)) (st0 (tk, (ss, ww))) j).1))])), (h 1, gI g 8 ((hlL pr va (8 * (k - 32)) (st0 (tk, (ss, ww))) j).2.1)), (h 2, gI g 64 ((hlL pr va (8 * (k - 32)) (st0 (tk, (ss, ww))) j).2.2))]) C (c_X4_nodeOf l g (8 * (k - 32) + j) (by omega)) ⟨va_cnB 1 C.2.2.2.2.1 gX1_hashLeaf_X4_nodeOf_n36 rfl rfl rfl (C.2.2.2.2.2.2.2.2.2.2.2.2.2.2.2 _ (List.mem_of_getElem? (i := 1) rfl)) (C.2.2.2.2.1 _ (by decide +kernel)) (by decide +kernel) ⟨Nat.le_of_ble_eq_true rfl, Nat.le_of_ble_eq_true rfl⟩, C.2.2.2.2.1 _ (by decide +kernel), trivial⟩ [] [0, 1, 2, 3, 4, 5, 6] rfl rfl rfl rfl rfl (by decide) rfl rfl (Nat.le_of_ble_eq_true rfl) dX1_hashLeaf_48 ⟨Nat.le_of_ble_eq_true rfl, Nat.le_of_ble_eq_true rfl⟩ rfl ?_
          refine g_i2l C dX1_hashLeaf_51 ?_
          refine g_iconst (v := nI 1) C dX1_hashLeaf_52 (by decide) ?_
          refine g_callV0 (wr := [(a 0, .inr (2, [.ref (a 1), .ref (a 2), .ref (a 3), .ref (a 4), .ref (a 5), .ref (a 6), .int sz])), (a 1, gZ g 256 pr), (a 2, gJ g 256 va), (a 6, gI g 64 ct)]) (w2 := [(a 0, .inr (2, [.ref (a 1), .ref (a 2), .ref (a 3), .ref (a 4), .ref (a 5), .ref (a 6), .int sz])), (a 1, gZ g 256 pr), (a 2, gJ g 256 va), (a 6, gI g 64 ct), (h 0, .inr (1, [.ref (h 1), .ref (h 2), .int (nI (((hlL pr va (8 * (k - 32)) (st0 (tk, (ss, ww))) j).1) + 1))])), (h 1, gI g 8 ((tkL (Int32.toInt64 (nI ((8 * (k - 32) + j) / 64))) 1 ((hlL pr va (8 * (k - 32)) (st0 (tk, (ss, ww))) j).1) (((hlL pr va (8 * (k - 32)) (st0 (tk, (ss, ww))) j).2.1), ((hlL pr va (8 * (k - 32)) (st0 (tk, (ss, ww))) j).2.2))).1)), (h 2, gI g 64 ((tkL (Int32.toInt64 (nI ((8 * (k - 32) + j) / 64))) 1 ((hlL pr va (8 * (k - 32)) (st0 (tk, (ss, ww))) j).1) (((hlL pr va (8 * (k - 32)) (st0 (tk, (ss, ww))) j).2.1), ((hlL pr va (8 * (k - 32)) (st0 (tk, (ss, ww))) j).2.2))).2))]) C (c_X0_take l g h ((hlL pr va (8 * (k - 32)) (st0 (tk, (ss, ww))) j).1) ((hlL pr va (8 * (k - 32)) (st0 (tk, (ss, ww))) j).2.1) ((hlL pr va (8 * (k - 32)) (st0 (tk, (ss, ww))) j).2.2) (Int32.toInt64 (nI ((8 * (k - 32) + j) / 64))) 1 (by omega) (by omega)) (cwV 2 C.2.2.2.2.1 gX1_hashLeaf_X0_take rfl rfl rfl (by decide +kernel) ⟨Nat.le_of_ble_eq_true rfl, Nat.le_of_ble_eq_true rfl⟩) 4 rfl rfl rfl [4, 5, 6] [0, 1, 2, 3] rfl rfl rfl rfl rfl (by decide) rfl rfl (Nat.le_of_ble_eq_true rfl) dX1_hashLeaf_53 ⟨Nat.le_of_ble_eq_true rfl, Nat.le_of_ble_eq_true rfl⟩ rfl ?_
          refine g_aload_n C dX1_hashLeaf_56 rfl 4 rfl ?_
          refine g_iload C dX1_hashLeaf_57 0 rfl ?_
          refine g_callSN1 (wr := [(a 0, .inr (2, [.ref (a 1), .ref (a 2), .ref (a 3), .ref (a 4), .ref (a 5), .ref (a 6), .int sz])), (a 1, gZ g 256 pr), (a 2, gJ g 256 va), (a 6, gI g 64 ct), (h 0, .inr (1, [.ref (h 1), .ref (h 2), .int (nI (((hlL pr va (8 * (k - 32)) (st0 (tk, (ss, ww))) j).1) + 1))])), (h 1, gI g 8 ((tkL (Int32.toInt64 (nI ((8 * (k - 32) + j) / 64))) 1 ((hlL pr va (8 * (k - 32)) (st0 (tk, (ss, ww))) j).1) (((hlL pr va (8 * (k - 32)) (st0 (tk, (ss, ww))) j).2.1), ((hlL pr va (8 * (k - 32)) (st0 (tk, (ss, ww))) j).2.2))).1)), (h 2, gI g 64 ((tkL (Int32.toInt64 (nI ((8 * (k - 32) + j) / 64))) 1 ((hlL pr va (8 * (k - 32)) (st0 (tk, (ss, ww))) j).1) (((hlL pr va (8 * (k - 32)) (st0 (tk, (ss, ww))) j).2.1), ((hlL pr va (8 * (k - 32)) (st0 (tk, (ss, ww))) j).2.2))).2))]) (w2 := [(a 0, .inr (2, [.ref (a 1), .ref (a 2), .ref (a 3), .ref (a 4), .ref (a 5), .ref (a 6), .int sz])), (a 1, gZ g 256 pr), (a 2, gJ g 256 va), (a 6, gI g 64 ct), (h 0, .inr (1, [.ref (h 1), .ref (h 2), .int (nI (((hlL pr va (8 * (k - 32)) (st0 (tk, (ss, ww))) j).1) + 1))])), (h 1, gI g 8 ((tkL (Int32.toInt64 (nI ((8 * (k - 32) + j) / 64))) 1 ((hlL pr va (8 * (k - 32)) (st0 (tk, (ss, ww))) j).1) (((hlL pr va (8 * (k - 32)) (st0 (tk, (ss, ww))) j).2.1), ((hlL pr va (8 * (k - 32)) (st0 (tk, (ss, ww))) j).2.2))).1)), (h 2, gI g 64 ((tkL (Int32.toInt64 (nI ((8 * (k - 32) + j) / 64))) 1 ((hlL pr va (8 * (k - 32)) (st0 (tk, (ss, ww))) j).1) (((hlL pr va (8 * (k - 32)) (st0 (tk, (ss, ww))) j).2.1), ((hlL pr va (8 * (k - 32)) (st0 (tk, (ss, ww))) j).2.2))).2))]) C (c_X4_numberOf l g (8 * (k - 32) + j) (by omega)) ⟨va_cnB 1 C.2.2.2.2.1 gX1_hashLeaf_X4_numberOf_n92 rfl rfl rfl (C.2.2.2.2.2.2.2.2.2.2.2.2.2.2.2 _ (List.mem_of_getElem? (i := 3) rfl)) (C.2.2.2.2.1 _ (by decide +kernel)) (by decide +kernel) ⟨Nat.le_of_ble_eq_true rfl, Nat.le_of_ble_eq_true rfl⟩, C.2.2.2.2.1 _ (by decide +kernel), trivial⟩ [] [0, 1, 2, 3, 4, 5, 6] rfl rfl rfl rfl rfl (by decide) rfl rfl (Nat.le_of_ble_eq_true rfl) dX1_hashLeaf_59 ⟨Nat.le_of_ble_eq_true rfl, Nat.le_of_ble_eq_true rfl⟩ rfl ?_
          refine g_i2l C dX1_hashLeaf_62 ?_
          refine g_iconst (v := nI 1) C dX1_hashLeaf_63 (by decide) ?_
          refine g_callV0 (wr := [(a 0, .inr (2, [.ref (a 1), .ref (a 2), .ref (a 3), .ref (a 4), .ref (a 5), .ref (a 6), .int sz])), (a 1, gZ g 256 pr), (a 2, gJ g 256 va), (a 6, gI g 64 ct)]) (w2 := [(a 0, .inr (2, [.ref (a 1), .ref (a 2), .ref (a 3), .ref (a 4), .ref (a 5), .ref (a 6), .int sz])), (a 1, gZ g 256 pr), (a 2, gJ g 256 va), (a 6, gI g 64 ct), (h 0, .inr (1, [.ref (h 1), .ref (h 2), .int (nI ((((hlL pr va (8 * (k - 32)) (st0 (tk, (ss, ww))) j).1) + 1) + 1))])), (h 1, gI g 8 ((tkL (Int32.toInt64 (nI ((8 * (k - 32) + j) % 64 + 1))) 1 (((hlL pr va (8 * (k - 32)) (st0 (tk, (ss, ww))) j).1) + 1) (((tkL (Int32.toInt64 (nI ((8 * (k - 32) + j) / 64))) 1 ((hlL pr va (8 * (k - 32)) (st0 (tk, (ss, ww))) j).1) (((hlL pr va (8 * (k - 32)) (st0 (tk, (ss, ww))) j).2.1), ((hlL pr va (8 * (k - 32)) (st0 (tk, (ss, ww))) j).2.2))).1), ((tkL (Int32.toInt64 (nI ((8 * (k - 32) + j) / 64))) 1 ((hlL pr va (8 * (k - 32)) (st0 (tk, (ss, ww))) j).1) (((hlL pr va (8 * (k - 32)) (st0 (tk, (ss, ww))) j).2.1), ((hlL pr va (8 * (k - 32)) (st0 (tk, (ss, ww))) j).2.2))).2))).1)), (h 2, gI g 64 ((tkL (Int32.toInt64 (nI ((8 * (k - 32) + j) % 64 + 1))) 1 (((hlL pr va (8 * (k - 32)) (st0 (tk, (ss, ww))) j).1) + 1) (((tkL (Int32.toInt64 (nI ((8 * (k - 32) + j) / 64))) 1 ((hlL pr va (8 * (k - 32)) (st0 (tk, (ss, ww))) j).1) (((hlL pr va (8 * (k - 32)) (st0 (tk, (ss, ww))) j).2.1), ((hlL pr va (8 * (k - 32)) (st0 (tk, (ss, ww))) j).2.2))).1), ((tkL (Int32.toInt64 (nI ((8 * (k - 32) + j) / 64))) 1 ((hlL pr va (8 * (k - 32)) (st0 (tk, (ss, ww))) j).1) (((hlL pr va (8 * (k - 32)) (st0 (tk, (ss, ww))) j).2.1), ((hlL pr va (8 * (k - 32)) (st0 (tk, (ss, ww))) j).2.2))).2))).2))]) C (c_X0_take l g h (((hlL pr va (8 * (k - 32)) (st0 (tk, (ss, ww))) j).1) + 1) ((tkL (Int32.toInt64 (nI ((8 * (k - 32) + j) / 64))) 1 ((hlL pr va (8 * (k - 32)) (st0 (tk, (ss, ww))) j).1) (((hlL pr va (8 * (k - 32)) (st0 (tk, (ss, ww))) j).2.1), ((hlL pr va (8 * (k - 32)) (st0 (tk, (ss, ww))) j).2.2))).1) ((tkL (Int32.toInt64 (nI ((8 * (k - 32) + j) / 64))) 1 ((hlL pr va (8 * (k - 32)) (st0 (tk, (ss, ww))) j).1) (((hlL pr va (8 * (k - 32)) (st0 (tk, (ss, ww))) j).2.1), ((hlL pr va (8 * (k - 32)) (st0 (tk, (ss, ww))) j).2.2))).2) (Int32.toInt64 (nI ((8 * (k - 32) + j) % 64 + 1))) 1 (by omega) (by omega)) (cwV 2 C.2.2.2.2.1 gX1_hashLeaf_X0_take rfl rfl rfl (by decide +kernel) ⟨Nat.le_of_ble_eq_true rfl, Nat.le_of_ble_eq_true rfl⟩) 4 rfl rfl rfl [4, 5, 6] [0, 1, 2, 3] rfl rfl rfl rfl rfl (by decide) rfl rfl (Nat.le_of_ble_eq_true rfl) dX1_hashLeaf_64 ⟨Nat.le_of_ble_eq_true rfl, Nat.le_of_ble_eq_true rfl⟩ rfl ?_
          refine g_aload_n C dX1_hashLeaf_67 rfl 4 rfl ?_
          refine g_aload_n C dX1_hashLeaf_68 rfl 2 rfl ?_
          refine g_get C hinX1 0 rfl rfl 1 (by decide) (by decide +kernel) rfl rfl dX1_hashLeaf_69 ?_
          refine g_iload C dX1_hashLeaf_72 0 rfl ?_
          refine g_lald C 2 rfl (by omega) (by decide) dX1_hashLeaf_74 ?_
          refine g_bipush (v := nI 8) C dX1_hashLeaf_75 (by decide) ?_
          refine g_callV0 (wr := [(a 0, .inr (2, [.ref (a 1), .ref (a 2), .ref (a 3), .ref (a 4), .ref (a 5), .ref (a 6), .int sz])), (a 1, gZ g 256 pr), (a 2, gJ g 256 va), (a 6, gI g 64 ct)]) (w2 := [(a 0, .inr (2, [.ref (a 1), .ref (a 2), .ref (a 3), .ref (a 4), .ref (a 5), .ref (a 6), .int sz])), (a 1, gZ g 256 pr), (a 2, gJ g 256 va), (a 6, gI g 64 ct), (h 0, .inr (1, [.ref (h 1), .ref (h 2), .int (nI (((((hlL pr va (8 * (k - 32)) (st0 (tk, (ss, ww))) j).1) + 1) + 1) + 8))])), (h 1, gI g 8 ((tkL (va (8 * (k - 32) + j)) 8 ((((hlL pr va (8 * (k - 32)) (st0 (tk, (ss, ww))) j).1) + 1) + 1) (((tkL (Int32.toInt64 (nI ((8 * (k - 32) + j) % 64 + 1))) 1 (((hlL pr va (8 * (k - 32)) (st0 (tk, (ss, ww))) j).1) + 1) (((tkL (Int32.toInt64 (nI ((8 * (k - 32) + j) / 64))) 1 ((hlL pr va (8 * (k - 32)) (st0 (tk, (ss, ww))) j).1) (((hlL pr va (8 * (k - 32)) (st0 (tk, (ss, ww))) j).2.1), ((hlL pr va (8 * (k - 32)) (st0 (tk, (ss, ww))) j).2.2))).1), ((tkL (Int32.toInt64 (nI ((8 * (k - 32) + j) / 64))) 1 ((hlL pr va (8 * (k - 32)) (st0 (tk, (ss, ww))) j).1) (((hlL pr va (8 * (k - 32)) (st0 (tk, (ss, ww))) j).2.1), ((hlL pr va (8 * (k - 32)) (st0 (tk, (ss, ww))) j).2.2))).2))).1), ((tkL (Int32.toInt64 (nI ((8 * (k - 32) + j) % 64 + 1))) 1 (((hlL pr va (8 * (k - 32)) (st0 (tk, (ss, ww))) j).1) + 1) (((tkL (Int32.toInt64 (nI ((8 * (k - 32) + j) / 64))) 1 ((hlL pr va (8 * (k - 32)) (st0 (tk, (ss, ww))) j).1) (((hlL pr va (8 * (k - 32)) (st0 (tk, (ss, ww))) j).2.1), ((hlL pr va (8 * (k - 32)) (st0 (tk, (ss, ww))) j).2.2))).1), ((tkL (Int32.toInt64 (nI ((8 * (k - 32) + j) / 64))) 1 ((hlL pr va (8 * (k - 32)) (st0 (tk, (ss, ww))) j).1) (((hlL pr va (8 * (k - 32)) (st0 (tk, (ss, ww))) j).2.1), ((hlL pr va (8 * (k - 32)) (st0 (tk, (ss, ww))) j).2.2))).2))).2))).1)), (h 2, gI g 64 ((tkL (va (8 * (k - 32) + j)) 8 ((((hlL pr va (8 * (k - 32)) (st0 (tk, (ss, ww))) j).1) + 1) + 1) (((tkL (Int32.toInt64 (nI ((8 * (k - 32) + j) % 64 + 1))) 1 (((hlL pr va (8 * (k - 32)) (st0 (tk, (ss, ww))) j).1) + 1) (((tkL (Int32.toInt64 (nI ((8 * (k - 32) + j) / 64))) 1 ((hlL pr va (8 * (k - 32)) (st0 (tk, (ss, ww))) j).1) (((hlL pr va (8 * (k - 32)) (st0 (tk, (ss, ww))) j).2.1), ((hlL pr va (8 * (k - 32)) (st0 (tk, (ss, ww))) j).2.2))).1), ((tkL (Int32.toInt64 (nI ((8 * (k - 32) + j) / 64))) 1 ((hlL pr va (8 * (k - 32)) (st0 (tk, (ss, ww))) j).1) (((hlL pr va (8 * (k - 32)) (st0 (tk, (ss, ww))) j).2.1), ((hlL pr va (8 * (k - 32)) (st0 (tk, (ss, ww))) j).2.2))).2))).1), ((tkL (Int32.toInt64 (nI ((8 * (k - 32) + j) % 64 + 1))) 1 (((hlL pr va (8 * (k - 32)) (st0 (tk, (ss, ww))) j).1) + 1) (((tkL (Int32.toInt64 (nI ((8 * (k - 32) + j) / 64))) 1 ((hlL pr va (8 * (k - 32)) (st0 (tk, (ss, ww))) j).1) (((hlL pr va (8 * (k - 32)) (st0 (tk, (ss, ww))) j).2.1), ((hlL pr va (8 * (k - 32)) (st0 (tk, (ss, ww))) j).2.2))).1), ((tkL (Int32.toInt64 (nI ((8 * (k - 32) + j) / 64))) 1 ((hlL pr va (8 * (k - 32)) (st0 (tk, (ss, ww))) j).1) (((hlL pr va (8 * (k - 32)) (st0 (tk, (ss, ww))) j).2.1), ((hlL pr va (8 * (k - 32)) (st0 (tk, (ss, ww))) j).2.2))).2))).2))).2))]) C (c_X0_take l g h ((((hlL pr va (8 * (k - 32)) (st0 (tk, (ss, ww))) j).1) + 1) + 1) ((tkL (Int32.toInt64 (nI ((8 * (k - 32) + j) % 64 + 1))) 1 (((hlL pr va (8 * (k - 32)) (st0 (tk, (ss, ww))) j).1) + 1) (((tkL (Int32.toInt64 (nI ((8 * (k - 32) + j) / 64))) 1 ((hlL pr va (8 * (k - 32)) (st0 (tk, (ss, ww))) j).1) (((hlL pr va (8 * (k - 32)) (st0 (tk, (ss, ww))) j).2.1), ((hlL pr va (8 * (k - 32)) (st0 (tk, (ss, ww))) j).2.2))).1), ((tkL (Int32.toInt64 (nI ((8 * (k - 32) + j) / 64))) 1 ((hlL pr va (8 * (k - 32)) (st0 (tk, (ss, ww))) j).1) (((hlL pr va (8 * (k - 32)) (st0 (tk, (ss, ww))) j).2.1), ((hlL pr va (8 * (k - 32)) (st0 (tk, (ss, ww))) j).2.2))).2))).1) ((tkL (Int32.toInt64 (nI ((8 * (k - 32) + j) % 64 + 1))) 1 (((hlL pr va (8 * (k - 32)) (st0 (tk, (ss, ww))) j).1) + 1) (((tkL (Int32.toInt64 (nI ((8 * (k - 32) + j) / 64))) 1 ((hlL pr va (8 * (k - 32)) (st0 (tk, (ss, ww))) j).1) (((hlL pr va (8 * (k - 32)) (st0 (tk, (ss, ww))) j).2.1), ((hlL pr va (8 * (k - 32)) (st0 (tk, (ss, ww))) j).2.2))).1), ((tkL (Int32.toInt64 (nI ((8 * (k - 32) + j) / 64))) 1 ((hlL pr va (8 * (k - 32)) (st0 (tk, (ss, ww))) j).1) (((hlL pr va (8 * (k - 32)) (st0 (tk, (ss, ww))) j).2.1), ((hlL pr va (8 * (k - 32)) (st0 (tk, (ss, ww))) j).2.2))).2))).2) (va (8 * (k - 32) + j)) 8 (by omega) (by omega)) (cwV 2 C.2.2.2.2.1 gX1_hashLeaf_X0_take rfl rfl rfl (by decide +kernel) ⟨Nat.le_of_ble_eq_true rfl, Nat.le_of_ble_eq_true rfl⟩) 4 rfl rfl rfl [4, 5, 6] [0, 1, 2, 3] rfl rfl rfl rfl rfl (by decide) rfl rfl (Nat.le_of_ble_eq_true rfl) dX1_hashLeaf_77 ⟨Nat.le_of_ble_eq_true rfl, Nat.le_of_ble_eq_true rfl⟩ rfl ?_
          refine g_iinc_n (d := 1) (L' := [(4, .int (nI ((8 * (k - 32) + j) + 1))), (3, .int (nI (8 * (k - 32)))), (0, .ref (a 0)), (1, .int (nI k)), (2, .ref (h 0))]) C dX1_hashLeaf_80 0 rfl (by decide) (by decide) rfl ?_
          refine g_goto (tgt := 26) C dX1_hashLeaf_83 (by decide) ?_
          exact ihj (trivial)
  · skip
    refine g_aload_n C dX1_hashLeaf_9 rfl 2 rfl ?_
    refine g_callV0 (wr := [(a 0, .inr (2, [.ref (a 1), .ref (a 2), .ref (a 3), .ref (a 4), .ref (a 5), .ref (a 6), .int sz])), (a 1, gZ g 256 pr), (a 2, gJ g 256 va), (a 6, gI g 64 ct)]) (w2 := [(a 0, .inr (2, [.ref (a 1), .ref (a 2), .ref (a 3), .ref (a 4), .ref (a 5), .ref (a 6), .int sz])), (a 1, gZ g 256 pr), (a 2, gJ g 256 va), (a 6, gI g 64 ct), (h 0, .inr (1, [.ref (h 1), .ref (h 2), .int (nI tk)])), (h 1, gI g 8 (it (fun i z => va_up z i (nI 0)) ss 8)), (h 2, gI g 64 ww)]) C (c_X0_setZero l g h tk ss ww) (cwV 0 C.2.2.2.2.1 gX1_hashLeaf_X0_setZero rfl rfl rfl (by decide +kernel) ⟨Nat.le_of_ble_eq_true rfl, Nat.le_of_ble_eq_true rfl⟩) 4 rfl rfl rfl [4, 5, 6] [0, 1, 2, 3] rfl rfl rfl rfl rfl (by decide) rfl rfl (Nat.le_of_ble_eq_true rfl) dX1_hashLeaf_10 ⟨Nat.le_of_ble_eq_true rfl, Nat.le_of_ble_eq_true rfl⟩ rfl ?_
    refine g_vret C dX1_hashLeaf_13 (by decide) (by decide) ?_
    exact ⟨rfl, by rw [hashL, if_pos c6]; rfl⟩
set_option maxHeartbeats 4000000 in
set_option maxRecDepth 100000 in
theorem c_X1_hashInner (l : Launch) (g : gE) (a : Nat → Nat) (h : Nat → Nat) (sz : Int32) (dg : Nat → Int32) (ct : Nat → Int32) (tk : Nat) (ss : Nat → Int32) (ww : Nat → Int32) (r : Nat) (hk : 1 ≤ r) (hk2 : r < 32) : Kt l g yX1_hashInner wsX1_hashInner 4 102 0 0 [.ref (a 0), .int (nI r), .ref (h 0)] [(a 0, .inr (2, [.ref (a 1), .ref (a 2), .ref (a 3), .ref (a 4), .ref (a 5), .ref (a 6), .int sz])), (a 4, gI g 512 dg), (a 6, gI g 64 ct), (h 0, .inr (1, [.ref (h 1), .ref (h 2), .int (nI tk)])), (h 1, gI g 8 ss), (h 2, gI g 64 ww)] (kR none [(a 0, .inr (2, [.ref (a 1), .ref (a 2), .ref (a 3), .ref (a 4), .ref (a 5), .ref (a 6), .int sz])), (a 4, gI g 512 dg), (a 6, gI g 64 ct), (h 0, .inr (1, [.ref (h 1), .ref (h 2), .int (nI ((hashI (ct r) dg (16 * r) (tk, (ss, ww))).1))])), (h 1, gI g 8 ((hashI (ct r) dg (16 * r) (tk, (ss, ww))).2.1)), (h 2, gI g 64 ((hashI (ct r) dg (16 * r) (tk, (ss, ww))).2.2))]) := by
  have hinX1 : ∀ w ∈ wsX10, w ∈ wsX1_hashInner := by
    intro w h
    unfold wsX1_hashInner
    simp only [List.mem_cons, List.mem_append]
    simp only [h, or_true, true_or]
  refine g_enter (cc := cX1_hashInner) (maxL := 5) (ret := none) (own := RX1) (L := [(0, .ref (a 0)), (1, .int (nI r)), (2, .ref (h 0))]) (by decide) rfl rfl (Nat.le_of_ble_eq_true rfl) rfl ?_
  intro p e s m args below meth c hin0 C
  refine g_aload_n C dX1_hashInner_0 rfl 0 rfl ?_
  refine g_get C hinX1 0 rfl rfl 5 (by decide) (by decide +kernel) rfl rfl dX1_hashInner_1 ?_
  refine g_iload_n C dX1_hashInner_4 rfl 1 rfl ?_
  refine g_iald C 2 rfl (by omega) (by decide) dX1_hashInner_5 ?_
  refine g_if_ne (tgt := 14) C dX1_hashInner_6 (by decide) (fun c6 => ?_) (fun c6 => ?_)
  · skip
    refine g_bipush (v := nI 16) C dX1_hashInner_14 (by decide) ?_
    refine g_iload_n C dX1_hashInner_16 rfl 1 rfl ?_
    refine g_imul_n C dX1_hashInner_17 ?_
    refine g_istore_n (L' := [(3, .int (nI (16 * r))), (0, .ref (a 0)), (1, .int (nI r)), (2, .ref (h 0))]) C dX1_hashInner_18 rfl (by decide) rfl ?_
    refine g_aload_n C dX1_hashInner_19 rfl 3 rfl ?_
    refine g_callV0 (wr := [(a 0, .inr (2, [.ref (a 1), .ref (a 2), .ref (a 3), .ref (a 4), .ref (a 5), .ref (a 6), .int sz])), (a 4, gI g 512 dg), (a 6, gI g 64 ct)]) (w2 := [(a 0, .inr (2, [.ref (a 1), .ref (a 2), .ref (a 3), .ref (a 4), .ref (a 5), .ref (a 6), .int sz])), (a 4, gI g 512 dg), (a 6, gI g 64 ct), (h 0, .inr (1, [.ref (h 1), .ref (h 2), .int (nI 0)])), (h 1, gI g 8 (va_cpy sha_H ss 0 0 8)), (h 2, gI g 64 ww)]) C (c_X0_start l g h tk ss ww) (cwV 0 C.2.2.2.2.1 gX1_hashInner_X0_start rfl rfl rfl (by decide +kernel) ⟨Nat.le_of_ble_eq_true rfl, Nat.le_of_ble_eq_true rfl⟩) 3 rfl rfl rfl [3, 4, 5] [0, 1, 2] rfl rfl rfl rfl rfl (by decide) rfl rfl (Nat.le_of_ble_eq_true rfl) dX1_hashInner_20 ⟨Nat.le_of_ble_eq_true rfl, Nat.le_of_ble_eq_true rfl⟩ rfl ?_
    refine g_iload_n C dX1_hashInner_23 rfl 0 rfl ?_
    refine g_istore (L' := [(4, .int (nI (16 * r))), (3, .int (nI (16 * r))), (0, .ref (a 0)), (1, .int (nI r)), (2, .ref (h 0))]) C dX1_hashInner_24 (by decide) rfl ?_
    refine g_up 16 0 (fun _ => True) (fun j => [(4, .int (nI (16 * r + j))), (3, .int (nI (16 * r))), (0, .ref (a 0)), (1, .int (nI r)), (2, .ref (h 0))]) (fun j => [(a 0, .inr (2, [.ref (a 1), .ref (a 2), .ref (a 3), .ref (a 4), .ref (a 5), .ref (a 6), .int sz])), (a 4, gI g 512 dg), (a 6, gI g 64 ct), (h 0, .inr (1, [.ref (h 1), .ref (h 2), .int (nI (4 * j))])), (h 1, gI g 8 ((hiL dg (16 * r) (st0 (tk, (ss, ww))).2 j).1)), (h 2, gI g 64 ((hiL dg (16 * r) (st0 (tk, (ss, ww))).2 j).2))]) (by omega) (trivial) ?_ ?_
    · intro hPj
      try dsimp only
      refine g_iload C dX1_hashInner_26 0 rfl ?_
      refine g_iload_n C dX1_hashInner_28 rfl 1 rfl ?_
      refine g_bipush (v := nI 16) C dX1_hashInner_29 (by decide) ?_
      refine g_iadd_n C dX1_hashInner_31 ?_
      refine g_icmp_ge_n (tgt := 54) C dX1_hashInner_32 (by decide) (by omega) (by omega) (fun c32 => ?_) (fun c32 => ?_)
      · skip
        refine g_aload_n C dX1_hashInner_54 rfl 4 rfl ?_
        refine g_callV0 (wr := [(a 0, .inr (2, [.ref (a 1), .ref (a 2), .ref (a 3), .ref (a 4), .ref (a 5), .ref (a 6), .int sz])), (a 4, gI g 512 dg), (a 6, gI g 64 ct)]) (w2 := [(a 0, .inr (2, [.ref (a 1), .ref (a 2), .ref (a 3), .ref (a 4), .ref (a 5), .ref (a 6), .int sz])), (a 4, gI g 512 dg), (a 6, gI g 64 ct), (h 0, .inr (1, [.ref (h 1), .ref (h 2), .int (nI ((4 * 16) + 1 + zN (4 * 16) + 8))])), (h 1, gI g 8 ((finS (4 * 16) (((hiL dg (16 * r) (st0 (tk, (ss, ww))).2 16).1), ((hiL dg (16 * r) (st0 (tk, (ss, ww))).2 16).2))).1)), (h 2, gI g 64 ((finS (4 * 16) (((hiL dg (16 * r) (st0 (tk, (ss, ww))).2 16).1), ((hiL dg (16 * r) (st0 (tk, (ss, ww))).2 16).2))).2))]) C (c_X0_finish l g h (4 * 16) ((hiL dg (16 * r) (st0 (tk, (ss, ww))).2 16).1) ((hiL dg (16 * r) (st0 (tk, (ss, ww))).2 16).2) (by omega)) (cwV 0 C.2.2.2.2.1 gX1_hashInner_X0_finish rfl rfl rfl (by decide +kernel) ⟨Nat.le_of_ble_eq_true rfl, Nat.le_of_ble_eq_true rfl⟩) 3 rfl rfl rfl [3, 4, 5] [0, 1, 2] rfl rfl rfl rfl rfl (by decide) rfl rfl (Nat.le_of_ble_eq_true rfl) dX1_hashInner_55 ⟨Nat.le_of_ble_eq_true rfl, Nat.le_of_ble_eq_true rfl⟩ rfl ?_
        refine g_vret C dX1_hashInner_58 (by decide) (by decide) ?_
        exact ⟨rfl, by rw [hashI, if_neg c6]; rfl⟩
      · skip
        exfalso; omega
    · intro j hlj huj hPj ihj
      try dsimp only at ihj ⊢
      refine g_iload C dX1_hashInner_26 0 rfl ?_
      refine g_iload_n C dX1_hashInner_28 rfl 1 rfl ?_
      refine g_bipush (v := nI 16) C dX1_hashInner_29 (by decide) ?_
      refine g_iadd_n C dX1_hashInner_31 ?_
      refine g_icmp_ge_n (tgt := 54) C dX1_hashInner_32 (by decide) (by omega) (by omega) (fun c32 => ?_) (fun c32 => ?_)
      · skip
        exfalso; omega
      · skip
        refine g_aload_n C dX1_hashInner_35 rfl 4 rfl ?_
        refine g_aload_n C dX1_hashInner_36 rfl 2 rfl ?_
        refine g_get C hinX1 0 rfl rfl 3 (by decide) (by decide +kernel) rfl rfl dX1_hashInner_37 ?_
        refine g_iload C dX1_hashInner_40 0 rfl ?_
        refine g_iald C 1 rfl (by omega) (by decide) dX1_hashInner_42 ?_
        refine g_i2l C dX1_hashInner_43 ?_
        refine g_iconst (v := nI 4) C dX1_hashInner_44 (by decide) ?_
        refine g_callV0 (wr := [(a 0, .inr (2, [.ref (a 1), .ref (a 2), .ref (a 3), .ref (a 4), .ref (a 5), .ref (a 6), .int sz])), (a 4, gI g 512 dg), (a 6, gI g 64 ct)]) (w2 := [(a 0, .inr (2, [.ref (a 1), .ref (a 2), .ref (a 3), .ref (a 4), .ref (a 5), .ref (a 6), .int sz])), (a 4, gI g 512 dg), (a 6, gI g 64 ct), (h 0, .inr (1, [.ref (h 1), .ref (h 2), .int (nI ((4 * j) + 4))])), (h 1, gI g 8 ((tkL (Int32.toInt64 (dg (16 * r + j))) 4 (4 * j) (((hiL dg (16 * r) (st0 (tk, (ss, ww))).2 j).1), ((hiL dg (16 * r) (st0 (tk, (ss, ww))).2 j).2))).1)), (h 2, gI g 64 ((tkL (Int32.toInt64 (dg (16 * r + j))) 4 (4 * j) (((hiL dg (16 * r) (st0 (tk, (ss, ww))).2 j).1), ((hiL dg (16 * r) (st0 (tk, (ss, ww))).2 j).2))).2))]) C (c_X0_take l g h (4 * j) ((hiL dg (16 * r) (st0 (tk, (ss, ww))).2 j).1) ((hiL dg (16 * r) (st0 (tk, (ss, ww))).2 j).2) (Int32.toInt64 (dg (16 * r + j))) 4 (by omega) (by omega)) (cwV 2 C.2.2.2.2.1 gX1_hashInner_X0_take rfl rfl rfl (by decide +kernel) ⟨Nat.le_of_ble_eq_true rfl, Nat.le_of_ble_eq_true rfl⟩) 3 rfl rfl rfl [3, 4, 5] [0, 1, 2] rfl rfl rfl rfl rfl (by decide) rfl rfl (Nat.le_of_ble_eq_true rfl) dX1_hashInner_45 ⟨Nat.le_of_ble_eq_true rfl, Nat.le_of_ble_eq_true rfl⟩ rfl ?_
        refine g_iinc_n (d := 1) (L' := [(4, .int (nI ((16 * r + j) + 1))), (3, .int (nI (16 * r))), (0, .ref (a 0)), (1, .int (nI r)), (2, .ref (h 0))]) C dX1_hashInner_48 0 rfl (by decide) (by decide) rfl ?_
        refine g_goto (tgt := 26) C dX1_hashInner_51 (by decide) ?_
        exact ihj (trivial)
  · skip
    refine g_aload_n C dX1_hashInner_9 rfl 2 rfl ?_
    refine g_callV0 (wr := [(a 0, .inr (2, [.ref (a 1), .ref (a 2), .ref (a 3), .ref (a 4), .ref (a 5), .ref (a 6), .int sz])), (a 4, gI g 512 dg), (a 6, gI g 64 ct)]) (w2 := [(a 0, .inr (2, [.ref (a 1), .ref (a 2), .ref (a 3), .ref (a 4), .ref (a 5), .ref (a 6), .int sz])), (a 4, gI g 512 dg), (a 6, gI g 64 ct), (h 0, .inr (1, [.ref (h 1), .ref (h 2), .int (nI tk)])), (h 1, gI g 8 (it (fun i z => va_up z i (nI 0)) ss 8)), (h 2, gI g 64 ww)]) C (c_X0_setZero l g h tk ss ww) (cwV 0 C.2.2.2.2.1 gX1_hashInner_X0_setZero rfl rfl rfl (by decide +kernel) ⟨Nat.le_of_ble_eq_true rfl, Nat.le_of_ble_eq_true rfl⟩) 3 rfl rfl rfl [3, 4, 5] [0, 1, 2] rfl rfl rfl rfl rfl (by decide) rfl rfl (Nat.le_of_ble_eq_true rfl) dX1_hashInner_10 ⟨Nat.le_of_ble_eq_true rfl, Nat.le_of_ble_eq_true rfl⟩ rfl ?_
    refine g_vret C dX1_hashInner_13 (by decide) (by decide) ?_
    exact ⟨rfl, by rw [hashI, if_pos c6]; rfl⟩
set_option maxHeartbeats 4000000 in
set_option maxRecDepth 100000 in
theorem c_X1_isLeafTrue (l : Launch) (g : gE) (a : Nat → Nat) (h : Nat → Nat) (sz : Int32) (pr : Nat → Bool) (va : Nat → Int64) (dg : Nat → Int32) (ct : Nat → Int32) (tk : Nat) (ss : Nat → Int32) (ww : Nat → Int32) (k : Nat) (hk : 32 ≤ k) (hk2 : k < 64) : Kt l g yX1_isLeafTrue wsX1_isLeafTrue 5 126 0 0 [.ref (a 0), .int (nI k), .ref (h 0)] [(a 0, .inr (2, [.ref (a 1), .ref (a 2), .ref (a 3), .ref (a 4), .ref (a 5), .ref (a 6), .int sz])), (a 1, gZ g 256 pr), (a 2, gJ g 256 va), (a 4, gI g 512 dg), (a 6, gI g 64 ct), (h 0, .inr (1, [.ref (h 1), .ref (h 2), .int (nI tk)])), (h 1, gI g 8 ss), (h 2, gI g 64 ww)] (kR (some (.int (bI (eq8 dg (hashL (ct k) pr va (8 * (k - 32)) (tk, (ss, ww))).2.1 (8 * k) 0)))) [(a 0, .inr (2, [.ref (a 1), .ref (a 2), .ref (a 3), .ref (a 4), .ref (a 5), .ref (a 6), .int sz])), (a 1, gZ g 256 pr), (a 2, gJ g 256 va), (a 4, gI g 512 dg), (a 6, gI g 64 ct), (h 0, .inr (1, [.ref (h 1), .ref (h 2), .int (nI ((hashL (ct k) pr va (8 * (k - 32)) (tk, (ss, ww))).1))])), (h 1, gI g 8 ((hashL (ct k) pr va (8 * (k - 32)) (tk, (ss, ww))).2.1)), (h 2, gI g 64 ((hashL (ct k) pr va (8 * (k - 32)) (tk, (ss, ww))).2.2))]) := by
  refine g_enter (cc := cX1_isLeafTrue) (maxL := 3) (ret := (some .boolean)) (own := RX1) (L := [(0, .ref (a 0)), (1, .int (nI k)), (2, .ref (h 0))]) (by decide) rfl rfl (Nat.le_of_ble_eq_true rfl) rfl ?_
  intro p e s m args below meth c hin0 C
  refine g_aload_n C dX1_isLeafTrue_0 rfl 0 rfl ?_
  refine g_iload_n C dX1_isLeafTrue_1 rfl 1 rfl ?_
  refine g_aload_n C dX1_isLeafTrue_2 rfl 2 rfl ?_
  refine g_callV0 (wr := [(a 4, gI g 512 dg)]) (w2 := [(a 4, gI g 512 dg), (a 0, .inr (2, [.ref (a 1), .ref (a 2), .ref (a 3), .ref (a 4), .ref (a 5), .ref (a 6), .int sz])), (a 1, gZ g 256 pr), (a 2, gJ g 256 va), (a 6, gI g 64 ct), (h 0, .inr (1, [.ref (h 1), .ref (h 2), .int (nI ((hashL (ct k) pr va (8 * (k - 32)) (tk, (ss, ww))).1))])), (h 1, gI g 8 ((hashL (ct k) pr va (8 * (k - 32)) (tk, (ss, ww))).2.1)), (h 2, gI g 64 ((hashL (ct k) pr va (8 * (k - 32)) (tk, (ss, ww))).2.2))]) C (c_X1_hashLeaf l g a h sz pr va ct tk ss ww k (by omega) (by omega)) (cwV 2 C.2.2.2.2.1 gX1_isLeafTrue_X1_hashLeaf rfl rfl rfl (by decide +kernel) ⟨Nat.le_of_ble_eq_true rfl, Nat.le_of_ble_eq_true rfl⟩) 0 rfl rfl rfl [0, 1, 2, 4, 5, 6, 7] [3] rfl rfl rfl rfl rfl (by decide) rfl rfl (Nat.le_of_ble_eq_true rfl) dX1_isLeafTrue_3 ⟨Nat.le_of_ble_eq_true rfl, Nat.le_of_ble_eq_true rfl⟩ rfl ?_
  refine g_aload_n C dX1_isLeafTrue_6 rfl 0 rfl ?_
  refine g_iload_n C dX1_isLeafTrue_7 rfl 1 rfl ?_
  refine g_aload_n C dX1_isLeafTrue_8 rfl 2 rfl ?_
  refine g_callV1 (wr := [(a 1, gZ g 256 pr), (a 2, gJ g 256 va), (a 6, gI g 64 ct)]) (w2 := [(a 1, gZ g 256 pr), (a 2, gJ g 256 va), (a 6, gI g 64 ct), (a 0, .inr (2, [.ref (a 1), .ref (a 2), .ref (a 3), .ref (a 4), .ref (a 5), .ref (a 6), .int sz])), (a 4, gI g 512 dg), (h 0, .inr (1, [.ref (h 1), .ref (h 2), .int (nI ((hashL (ct k) pr va (8 * (k - 32)) (tk, (ss, ww))).1))])), (h 1, gI g 8 ((hashL (ct k) pr va (8 * (k - 32)) (tk, (ss, ww))).2.1)), (h 2, gI g 64 ((hashL (ct k) pr va (8 * (k - 32)) (tk, (ss, ww))).2.2))]) C (c_X1_isKept l g a h sz dg ((hashL (ct k) pr va (8 * (k - 32)) (tk, (ss, ww))).1) ((hashL (ct k) pr va (8 * (k - 32)) (tk, (ss, ww))).2.1) ((hashL (ct k) pr va (8 * (k - 32)) (tk, (ss, ww))).2.2) k (by omega)) (cwV 2 C.2.2.2.2.1 gX1_isLeafTrue_X1_isKept rfl rfl rfl (by decide +kernel) ⟨Nat.le_of_ble_eq_true rfl, Nat.le_of_ble_eq_true rfl⟩) 1 rfl rfl rfl [1, 0, 5, 6, 7] [2, 3, 4] rfl rfl rfl rfl rfl (by decide) rfl rfl (Nat.le_of_ble_eq_true rfl) dX1_isLeafTrue_9 ⟨Nat.le_of_ble_eq_true rfl, Nat.le_of_ble_eq_true rfl⟩ rfl ?_
  refine g_perm (w2 := [(a 0, .inr (2, [.ref (a 1), .ref (a 2), .ref (a 3), .ref (a 4), .ref (a 5), .ref (a 6), .int sz])), (a 1, gZ g 256 pr), (a 2, gJ g 256 va), (a 4, gI g 512 dg), (a 6, gI g 64 ct), (h 0, .inr (1, [.ref (h 1), .ref (h 2), .int (nI ((hashL (ct k) pr va (8 * (k - 32)) (tk, (ss, ww))).1))])), (h 1, gI g 8 ((hashL (ct k) pr va (8 * (k - 32)) (tk, (ss, ww))).2.1)), (h 2, gI g 64 ((hashL (ct k) pr va (8 * (k - 32)) (tk, (ss, ww))).2.2))]) [3, 0, 1, 4, 2, 5, 6, 7] rfl rfl rfl ?_
  refine g_zret C dX1_isLeafTrue_12 (by decide) (by decide) ?_
  exact ⟨rfl, rfl⟩
