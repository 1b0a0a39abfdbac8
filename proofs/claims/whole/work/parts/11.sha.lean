set_option maxHeartbeats 4000000 in
set_option maxRecDepth 100000 in
theorem c_J6_rotateRight_7cf53 (l : Launch) (g : gE) (x n : Int32) : Kt l g yJ6_rotateRight_7cf53 wsJ6_rotateRight_7cf53 0 0 0 0 [.int x, .int n] [] (kR (some (.int (rr x n))) []) := by
  refine g_enter (cc := cJ6_rotateRight_7cf53) (maxL := 2) (ret := (some .int)) (own := RJ6) (L := [(0, .int x), (1, .int n)]) (by decide) rfl rfl (Nat.le_of_ble_eq_true rfl) rfl ?_
  intro p e s m args below meth c hin0 C
  refine g_iload_n C dJ6_rotateRight_7cf53_0 rfl 0 rfl ?_
  refine g_iload_n C dJ6_rotateRight_7cf53_1 rfl 1 rfl ?_
  refine g_iushr C dJ6_rotateRight_7cf53_2 ?_
  refine g_iload_n C dJ6_rotateRight_7cf53_3 rfl 0 rfl ?_
  refine g_iload_n C dJ6_rotateRight_7cf53_4 rfl 1 rfl ?_
  refine g_ineg C dJ6_rotateRight_7cf53_5 ?_
  refine g_ishl C dJ6_rotateRight_7cf53_6 ?_
  refine g_ior C dJ6_rotateRight_7cf53_7 ?_
  refine g_iret C dJ6_rotateRight_7cf53_8 (by decide) (by decide) ?_
  exact ⟨rfl, rfl⟩
set_option maxHeartbeats 4000000 in
set_option maxRecDepth 100000 in
theorem c_J6_rotateLeft_7cf53 (l : Launch) (g : gE) (x n : Int32) : Kt l g yJ6_rotateLeft_7cf53 wsJ6_rotateLeft_7cf53 0 0 0 0 [.int x, .int n] [] (kR (some (.int (rl x n))) []) := by
  refine g_enter (cc := cJ6_rotateLeft_7cf53) (maxL := 2) (ret := (some .int)) (own := RJ6) (L := [(0, .int x), (1, .int n)]) (by decide) rfl rfl (Nat.le_of_ble_eq_true rfl) rfl ?_
  intro p e s m args below meth c hin0 C
  refine g_iload_n C dJ6_rotateLeft_7cf53_0 rfl 0 rfl ?_
  refine g_iload_n C dJ6_rotateLeft_7cf53_1 rfl 1 rfl ?_
  refine g_ishl C dJ6_rotateLeft_7cf53_2 ?_
  refine g_iload_n C dJ6_rotateLeft_7cf53_3 rfl 0 rfl ?_
  refine g_iload_n C dJ6_rotateLeft_7cf53_4 rfl 1 rfl ?_
  refine g_ineg C dJ6_rotateLeft_7cf53_5 ?_
  refine g_iushr C dJ6_rotateLeft_7cf53_6 ?_
  refine g_ior C dJ6_rotateLeft_7cf53_7 ?_
  refine g_iret C dJ6_rotateLeft_7cf53_8 (by decide) (by decide) ?_
  exact ⟨rfl, rfl⟩
set_option maxHeartbeats 4000000 in
set_option maxRecDepth 100000 in
theorem c_J7_fill_53178 (l : Launch) (g : gE) (q n : Nat) (f : Nat → Int32) (v : Int32) (hn : n < 2 ^ 31) : Kt l g yJ7_fill_53178 wsJ7_fill_53178 0 0 0 0 [.ref q, .int v] [(q, gI g n f)] (kR none [(q, gI g n (it (fun i z => va_up z i v) f n))]) := by
  refine g_enter (cc := cJ7_fill_53178) (maxL := 4) (ret := none) (own := RJ7) (L := [(0, .ref q), (1, .int v)]) (by decide) rfl rfl (Nat.le_of_ble_eq_true rfl) rfl ?_
  intro p e s m args below meth c hin0 C
  refine g_iconst (v := nI 0) C dJ7_fill_53178_0 (by decide) ?_
  refine g_istore_n (L' := [(2, .int (nI 0)), (0, .ref q), (1, .int v)]) C dJ7_fill_53178_1 rfl (by decide) rfl ?_
  refine g_aload_n C dJ7_fill_53178_2 rfl 1 rfl ?_
  refine g_alen (t0 := 0) (n := n) C 0 rfl rfl rfl dJ7_fill_53178_3 ?_
  refine g_istore_n (L' := [(3, .int (nI n)), (2, .int (nI 0)), (0, .ref q), (1, .int v)]) C dJ7_fill_53178_4 rfl (by decide) rfl ?_
  refine g_up n 0 (fun _ => True) (fun i => [(3, .int (nI n)), (2, .int (nI i)), (0, .ref q), (1, .int v)]) (fun i => [(q, gI g n (it (fun i z => va_up z i v) f i))]) (by omega) (trivial) ?_ ?_
  · intro hPi
    try dsimp only
    refine g_iload_n C dJ7_fill_53178_5 rfl 1 rfl ?_
    refine g_iload_n C dJ7_fill_53178_6 rfl 0 rfl ?_
    refine g_icmp_ge_n (tgt := 20) C dJ7_fill_53178_7 (by decide) (by omega) (by omega) (fun c7 => ?_) (fun c7 => ?_)
    · skip
      refine g_vret C dJ7_fill_53178_20 (by decide) (by decide) ?_
      exact ⟨rfl, rfl⟩
    · skip
      exfalso; omega
  · intro i hli hui hPi ihi
    try dsimp only at ihi ⊢
    refine g_iload_n C dJ7_fill_53178_5 rfl 1 rfl ?_
    refine g_iload_n C dJ7_fill_53178_6 rfl 0 rfl ?_
    refine g_icmp_ge_n (tgt := 20) C dJ7_fill_53178_7 (by decide) (by omega) (by omega) (fun c7 => ?_) (fun c7 => ?_)
    · skip
      exfalso; omega
    · skip
      refine g_aload_n C dJ7_fill_53178_10 rfl 2 rfl ?_
      refine g_iload_n C dJ7_fill_53178_11 rfl 1 rfl ?_
      refine g_iload_n C dJ7_fill_53178_12 rfl 3 rfl ?_
      refine g_iast (w2 := [(q, gI g n (va_up (it (fun i z => va_up z i v) f i) i v))]) C 0 rfl (by omega) (by omega) rfl dJ7_fill_53178_13 ?_
      refine g_iinc_n (d := 1) (L' := [(2, .int (nI (i + 1))), (3, .int (nI n)), (0, .ref q), (1, .int v)]) C dJ7_fill_53178_14 1 rfl (by decide) (by decide) rfl ?_
      refine g_goto (tgt := 5) C dJ7_fill_53178_17 (by decide) ?_
      refine g_L (L2 := [(3, .int (nI n)), (2, .int (nI (i + 1))), (0, .ref q), (1, .int v)]) [1, 0, 2, 3] rfl ?_
      exact ihi (trivial)
set_option maxHeartbeats 4000000 in
set_option maxRecDepth 100000 in
theorem c_J7_fill_d0a16 (l : Launch) (g : gE) (q n : Nat) (f : Nat → Int64) (v : Int64) (hn : n < 2 ^ 31) : Kt l g yJ7_fill_d0a16 wsJ7_fill_d0a16 0 0 0 0 [.ref q, .long v] [(q, gJ g n f)] (kR none [(q, gJ g n (it (fun i z => va_up z i v) f n))]) := by
  refine g_enter (cc := cJ7_fill_d0a16) (maxL := 5) (ret := none) (own := RJ7) (L := [(0, .ref q), (1, .long v)]) (by decide) rfl rfl (Nat.le_of_ble_eq_true rfl) rfl ?_
  intro p e s m args below meth c hin0 C
  refine g_iconst (v := nI 0) C dJ7_fill_d0a16_0 (by decide) ?_
  refine g_istore_n (L' := [(3, .int (nI 0)), (0, .ref q), (1, .long v)]) C dJ7_fill_d0a16_1 rfl (by decide) rfl ?_
  refine g_aload_n C dJ7_fill_d0a16_2 rfl 1 rfl ?_
  refine g_alen (t0 := 1) (n := n) C 0 rfl rfl rfl dJ7_fill_d0a16_3 ?_
  refine g_istore (L' := [(4, .int (nI n)), (3, .int (nI 0)), (0, .ref q), (1, .long v)]) C dJ7_fill_d0a16_4 (by decide) rfl ?_
  refine g_up n 0 (fun _ => True) (fun i => [(4, .int (nI n)), (3, .int (nI i)), (0, .ref q), (1, .long v)]) (fun i => [(q, gJ g n (it (fun i z => va_up z i v) f i))]) (by omega) (trivial) ?_ ?_
  · intro hPi
    try dsimp only
    refine g_iload_n C dJ7_fill_d0a16_6 rfl 1 rfl ?_
    refine g_iload C dJ7_fill_d0a16_7 0 rfl ?_
    refine g_icmp_ge_n (tgt := 22) C dJ7_fill_d0a16_9 (by decide) (by omega) (by omega) (fun c9 => ?_) (fun c9 => ?_)
    · skip
      refine g_vret C dJ7_fill_d0a16_22 (by decide) (by decide) ?_
      exact ⟨rfl, rfl⟩
    · skip
      exfalso; omega
  · intro i hli hui hPi ihi
    try dsimp only at ihi ⊢
    refine g_iload_n C dJ7_fill_d0a16_6 rfl 1 rfl ?_
    refine g_iload C dJ7_fill_d0a16_7 0 rfl ?_
    refine g_icmp_ge_n (tgt := 22) C dJ7_fill_d0a16_9 (by decide) (by omega) (by omega) (fun c9 => ?_) (fun c9 => ?_)
    · skip
      exfalso; omega
    · skip
      refine g_aload_n C dJ7_fill_d0a16_12 rfl 2 rfl ?_
      refine g_iload_n C dJ7_fill_d0a16_13 rfl 1 rfl ?_
      refine g_lload_n C dJ7_fill_d0a16_14 rfl 3 rfl ?_
      refine g_last (w2 := [(q, gJ g n (va_up (it (fun i z => va_up z i v) f i) i v))]) C 0 rfl (by omega) (by omega) rfl dJ7_fill_d0a16_15 ?_
      refine g_iinc_n (d := 1) (L' := [(3, .int (nI (i + 1))), (4, .int (nI n)), (0, .ref q), (1, .long v)]) C dJ7_fill_d0a16_16 1 rfl (by decide) (by decide) rfl ?_
      refine g_goto (tgt := 6) C dJ7_fill_d0a16_19 (by decide) ?_
      refine g_L (L2 := [(4, .int (nI n)), (3, .int (nI (i + 1))), (0, .ref q), (1, .long v)]) [1, 0, 2, 3] rfl ?_
      exact ihi (trivial)
set_option maxHeartbeats 4000000 in
set_option maxRecDepth 100000 in
theorem c_X0_setZero (l : Launch) (g : gE) (a : Nat → Nat) (tk : Nat) (ss ww : Nat → Int32) : Kt l g yX0_setZero wsX0_setZero 1 23 0 0 [.ref (a 0)] [(a 0, .inr (1, [.ref (a 1), .ref (a 2), .int (nI tk)])), (a 1, gI g 8 ss), (a 2, gI g 64 ww)] (kR none [(a 0, .inr (1, [.ref (a 1), .ref (a 2), .int (nI tk)])), (a 1, gI g 8 (it (fun i z => va_up z i (nI 0)) ss 8)), (a 2, gI g 64 ww)]) := by
  have hinX0 : ∀ w ∈ wsX00, w ∈ wsX0_setZero := by
    intro w h
    unfold wsX0_setZero
    simp only [List.mem_cons, List.mem_append]
    simp only [h, or_true, true_or]
  refine g_enter (cc := cX0_setZero) (maxL := 1) (ret := none) (own := RX0) (L := [(0, .ref (a 0))]) (by decide) rfl rfl (Nat.le_of_ble_eq_true rfl) rfl ?_
  intro p e s m args below meth c hin0 C
  refine g_aload_n C dX0_setZero_0 rfl 0 rfl ?_
  refine g_get C hinX0 0 rfl rfl 0 (by decide) (by decide +kernel) rfl rfl dX0_setZero_1 ?_
  refine g_iconst (v := nI 0) C dX0_setZero_4 (by decide) ?_
  refine g_callS0 (wr := [(a 0, .inr (1, [.ref (a 1), .ref (a 2), .int (nI tk)])), (a 2, gI g 64 ww)]) (w2 := [(a 0, .inr (1, [.ref (a 1), .ref (a 2), .int (nI tk)])), (a 2, gI g 64 ww), (a 1, gI g 8 (it (fun i z => va_up z i (nI 0)) ss 8))]) C (c_J7_fill_53178 l g (a 1) 8 ss (nI 0) (by omega)) (va_cwS 2 C.2.2.2.2.1 gX0_setZero_J7_fill_53178 rfl rfl rfl (by decide +kernel) ⟨Nat.le_of_ble_eq_true rfl, Nat.le_of_ble_eq_true rfl⟩) [1] [0, 2] rfl rfl rfl rfl rfl (by decide) rfl rfl (Nat.le_of_ble_eq_true rfl) dX0_setZero_5 ⟨Nat.le_of_ble_eq_true rfl, Nat.le_of_ble_eq_true rfl⟩ rfl ?_
  refine g_perm (w2 := [(a 0, .inr (1, [.ref (a 1), .ref (a 2), .int (nI tk)])), (a 1, gI g 8 (it (fun i z => va_up z i (nI 0)) ss 8)), (a 2, gI g 64 ww)]) [0, 2, 1] rfl rfl rfl ?_
  refine g_vret C dX0_setZero_8 (by decide) (by decide) ?_
  exact ⟨rfl, rfl⟩
set_option maxHeartbeats 4000000 in
set_option maxRecDepth 100000 in
theorem c_X0_start (l : Launch) (g : gE) (a : Nat → Nat) (tk : Nat) (ss ww : Nat → Int32) : Kt l g yX0_start wsX0_start 1 60 0 0 [.ref (a 0)] [(a 0, .inr (1, [.ref (a 1), .ref (a 2), .int (nI tk)])), (a 1, gI g 8 ss), (a 2, gI g 64 ww)] (kR none [(a 0, .inr (1, [.ref (a 1), .ref (a 2), .int (nI 0)])), (a 1, gI g 8 (va_cpy sha_H ss 0 0 8)), (a 2, gI g 64 ww)]) := by
  have hinX0 : ∀ w ∈ wsX00, w ∈ wsX0_start := by
    intro w h
    unfold wsX0_start
    simp only [List.mem_cons, List.mem_append]
    simp only [h, or_true, true_or]
  refine g_enter (cc := cX0_start) (maxL := 1) (ret := none) (own := RX0) (L := [(0, .ref (a 0))]) (by decide) rfl rfl (Nat.le_of_ble_eq_true rfl) rfl ?_
  intro p e s m args below meth c hin0 C
  refine g_first C (by decide +kernel) dX0_start_0 ?_
  refine g_iconst (v := nI 0) C dX0_start_3 (by decide) ?_
  refine g_aload_n C dX0_start_4 rfl 0 rfl ?_
  refine g_get C hinX0 0 rfl rfl 0 (by decide) (by decide +kernel) rfl rfl dX0_start_5 ?_
  refine g_iconst (v := nI 0) C dX0_start_8 (by decide) ?_
  refine g_bipush (v := nI 8) C dX0_start_9 (by decide) ?_
  refine g_copyF (q1 := 1) (w2 := [(a 0, .inr (1, [.ref (a 1), .ref (a 2), .int (nI tk)])), (a 1, gI g 8 (va_cpy sha_H ss 0 0 8)), (a 2, gI g 64 ww)]) C (by decide +kernel) (by decide +kernel) (by decide +kernel) (by decide +kernel) rfl (by decide) (by decide) (by decide +kernel) dX0_start_11 rfl ?_
  refine g_aload_n C dX0_start_14 rfl 0 rfl ?_
  refine g_iconst (v := nI 0) C dX0_start_15 (by decide) ?_
  refine g_put (ty := .int) (w2 := [(a 0, .inr (1, [.ref (a 1), .ref (a 2), .int (nI 0)])), (a 1, gI g 8 (va_cpy sha_H ss 0 0 8)), (a 2, gI g 64 ww)]) C hinX0 0 rfl rfl 2 (by decide) (by decide +kernel) rfl tyX0 tyX0_ok nmX0 rfl (by decide +kernel) rfl rfl (Nat.le_of_ble_eq_true rfl) rfl dX0_start_16 ?_
  refine g_vret C dX0_start_19 (by decide) (by decide) ?_
  exact ⟨rfl, rfl⟩
set_option maxHeartbeats 4000000 in
set_option maxRecDepth 100000 in
theorem c_X0_word (l : Launch) (g : gE) (a : Nat → Nat) (tk : Nat) (ss ww : Nat → Int32) (i : Nat) (hi : i < 8) : Kt l g yX0_word wsX0_word 0 0 0 0 [.ref (a 0), .int (nI i)] [(a 0, .inr (1, [.ref (a 1), .ref (a 2), .int (nI tk)])), (a 1, gI g 8 ss), (a 2, gI g 64 ww)] (kR (some (.int (ss i))) [(a 0, .inr (1, [.ref (a 1), .ref (a 2), .int (nI tk)])), (a 1, gI g 8 ss), (a 2, gI g 64 ww)]) := by
  have hinX0 : ∀ w ∈ wsX00, w ∈ wsX0_word := by
    intro w h
    unfold wsX0_word
    simp only [List.mem_cons, List.mem_append]
    simp only [h, or_true, true_or]
  refine g_enter (cc := cX0_word) (maxL := 2) (ret := (some .int)) (own := RX0) (L := [(0, .ref (a 0)), (1, .int (nI i))]) (by decide) rfl rfl (Nat.le_of_ble_eq_true rfl) rfl ?_
  intro p e s m args below meth c hin0 C
  refine g_aload_n C dX0_word_0 rfl 0 rfl ?_
  refine g_get C hinX0 0 rfl rfl 0 (by decide) (by decide +kernel) rfl rfl dX0_word_1 ?_
  refine g_iload_n C dX0_word_4 rfl 1 rfl ?_
  refine g_iald C 1 rfl (by omega) (by decide) dX0_word_5 ?_
  refine g_iret C dX0_word_6 (by decide) (by decide) ?_
  exact ⟨rfl, rfl⟩
set_option maxHeartbeats 4000000 in
set_option maxRecDepth 100000 in
theorem c_X0_spreadWords (l : Launch) (g : gE) (a : Nat → Nat) (tk : Nat) (ss ww : Nat → Int32) : Kt l g yX0_spreadWords wsX0_spreadWords 1 21 0 0 [.ref (a 0)] [(a 0, .inr (1, [.ref (a 1), .ref (a 2), .int (nI tk)])), (a 1, gI g 8 ss), (a 2, gI g 64 ww)] (kR none [(a 0, .inr (1, [.ref (a 1), .ref (a 2), .int (nI tk)])), (a 1, gI g 8 ss), (a 2, gI g 64 (it spr ww 48))]) := by
  have hinX0 : ∀ w ∈ wsX00, w ∈ wsX0_spreadWords := by
    intro w h
    unfold wsX0_spreadWords
    simp only [List.mem_cons, List.mem_append]
    simp only [h, or_true, true_or]
  refine g_enter (cc := cX0_spreadWords) (maxL := 6) (ret := none) (own := RX0) (L := [(0, .ref (a 0))]) (by decide) rfl rfl (Nat.le_of_ble_eq_true rfl) rfl ?_
  intro p e s m args below meth c hin0 C
  refine g_bipush (v := nI 16) C dX0_spreadWords_0 (by decide) ?_
  refine g_istore_n (L' := [(1, .int (nI 16)), (0, .ref (a 0))]) C dX0_spreadWords_2 rfl (by decide) rfl ?_
  refine g_L (L2 := [(0, .ref (a 0)), (1, .int (nI 16))]) [1, 0] rfl ?_
  refine g_up 48 0 (fun _ => True) (fun j => [(0, .ref (a 0)), (1, .int (nI (16 + j)))]) (fun j => [(a 0, .inr (1, [.ref (a 1), .ref (a 2), .int (nI tk)])), (a 1, gI g 8 ss), (a 2, gI g 64 (it spr ww j))]) (by omega) (trivial) ?_ ?_
  · intro hPj
    try dsimp only
    refine g_iload_n C dX0_spreadWords_3 rfl 1 rfl ?_
    refine g_bipush (v := nI 64) C dX0_spreadWords_4 (by decide) ?_
    refine g_icmp_ge_n (tgt := 104) C dX0_spreadWords_6 (by decide) (by omega) (by omega) (fun c6 => ?_) (fun c6 => ?_)
    · skip
      refine g_vret C dX0_spreadWords_104 (by decide) (by decide) ?_
      exact ⟨rfl, rfl⟩
    · skip
      exfalso; omega
  · intro j hlj huj hPj ihj
    try dsimp only at ihj ⊢
    refine g_iload_n C dX0_spreadWords_3 rfl 1 rfl ?_
    refine g_bipush (v := nI 64) C dX0_spreadWords_4 (by decide) ?_
    refine g_icmp_ge_n (tgt := 104) C dX0_spreadWords_6 (by decide) (by omega) (by omega) (fun c6 => ?_) (fun c6 => ?_)
    · skip
      exfalso; omega
    · skip
      refine g_aload_n C dX0_spreadWords_9 rfl 0 rfl ?_
      refine g_get C hinX0 0 rfl rfl 1 (by decide) (by decide +kernel) rfl rfl dX0_spreadWords_10 ?_
      refine g_iload_n C dX0_spreadWords_13 rfl 1 rfl ?_
      refine g_bipush (v := nI 15) C dX0_spreadWords_14 (by decide) ?_
      refine g_isub_n C dX0_spreadWords_16 (by omega) ?_
      refine g_iald C 2 rfl (by omega) (by decide) dX0_spreadWords_17 ?_
      refine g_istore_n (L' := [(2, .int ((it spr ww j) ((16 + j) - 15))), (0, .ref (a 0)), (1, .int (nI (16 + j)))]) C dX0_spreadWords_18 rfl (by decide) rfl ?_
      refine g_aload_n C dX0_spreadWords_19 rfl 1 rfl ?_
      refine g_get C hinX0 0 rfl rfl 1 (by decide) (by decide +kernel) rfl rfl dX0_spreadWords_20 ?_
      refine g_iload_n C dX0_spreadWords_23 rfl 2 rfl ?_
      refine g_iconst (v := nI 2) C dX0_spreadWords_24 (by decide) ?_
      refine g_isub_n C dX0_spreadWords_25 (by omega) ?_
      refine g_iald C 2 rfl (by omega) (by decide) dX0_spreadWords_26 ?_
      refine g_istore_n (L' := [(3, .int ((it spr ww j) ((16 + j) - 2))), (2, .int ((it spr ww j) ((16 + j) - 15))), (0, .ref (a 0)), (1, .int (nI (16 + j)))]) C dX0_spreadWords_27 rfl (by decide) rfl ?_
      refine g_iload_n C dX0_spreadWords_28 rfl 1 rfl ?_
      refine g_bipush (v := nI 7) C dX0_spreadWords_29 (by decide) ?_
      refine g_callS1 (wr := [(a 0, .inr (1, [.ref (a 1), .ref (a 2), .int (nI tk)])), (a 1, gI g 8 ss), (a 2, gI g 64 (it spr ww j))]) (w2 := [(a 0, .inr (1, [.ref (a 1), .ref (a 2), .int (nI tk)])), (a 1, gI g 8 ss), (a 2, gI g 64 (it spr ww j))]) C (c_J6_rotateRight_7cf53 l g ((it spr ww j) ((16 + j) - 15)) (nI 7)) (va_cwS 2 C.2.2.2.2.1 gX0_spreadWords_J6_rotateRight_7cf53 rfl rfl rfl (by decide +kernel) ⟨Nat.le_of_ble_eq_true rfl, Nat.le_of_ble_eq_true rfl⟩) [] [0, 1, 2] rfl rfl rfl rfl rfl (by decide) rfl rfl (Nat.le_of_ble_eq_true rfl) dX0_spreadWords_31 ⟨Nat.le_of_ble_eq_true rfl, Nat.le_of_ble_eq_true rfl⟩ rfl ?_
      refine g_iload_n C dX0_spreadWords_34 rfl 1 rfl ?_
      refine g_bipush (v := nI 18) C dX0_spreadWords_35 (by decide) ?_
      refine g_callS1 (wr := [(a 0, .inr (1, [.ref (a 1), .ref (a 2), .int (nI tk)])), (a 1, gI g 8 ss), (a 2, gI g 64 (it spr ww j))]) (w2 := [(a 0, .inr (1, [.ref (a 1), .ref (a 2), .int (nI tk)])), (a 1, gI g 8 ss), (a 2, gI g 64 (it spr ww j))]) C (c_J6_rotateRight_7cf53 l g ((it spr ww j) ((16 + j) - 15)) (nI 18)) (va_cwS 2 C.2.2.2.2.1 gX0_spreadWords_J6_rotateRight_7cf53 rfl rfl rfl (by decide +kernel) ⟨Nat.le_of_ble_eq_true rfl, Nat.le_of_ble_eq_true rfl⟩) [] [0, 1, 2] rfl rfl rfl rfl rfl (by decide) rfl rfl (Nat.le_of_ble_eq_true rfl) dX0_spreadWords_37 ⟨Nat.le_of_ble_eq_true rfl, Nat.le_of_ble_eq_true rfl⟩ rfl ?_
      refine g_ixor C dX0_spreadWords_40 ?_
      refine g_iload_n C dX0_spreadWords_41 rfl 1 rfl ?_
      refine g_iconst (v := nI 3) C dX0_spreadWords_42 (by decide) ?_
      refine g_iushr C dX0_spreadWords_43 ?_
      refine g_ixor C dX0_spreadWords_44 ?_
      refine g_istore (L' := [(4, .int (((rr ((it spr ww j) ((16 + j) - 15)) (nI 7)) ^^^ (rr ((it spr ww j) ((16 + j) - 15)) (nI 18))) ^^^ ((Int32.toUInt32 ((it spr ww j) ((16 + j) - 15)) >>> (Int32.toUInt32 (nI 3) &&& Int32.toUInt32 31)).toInt32))), (3, .int ((it spr ww j) ((16 + j) - 2))), (2, .int ((it spr ww j) ((16 + j) - 15))), (0, .ref (a 0)), (1, .int (nI (16 + j)))]) C dX0_spreadWords_45 (by decide) rfl ?_
      refine g_iload_n C dX0_spreadWords_47 rfl 1 rfl ?_
      refine g_bipush (v := nI 17) C dX0_spreadWords_48 (by decide) ?_
      refine g_callS1 (wr := [(a 0, .inr (1, [.ref (a 1), .ref (a 2), .int (nI tk)])), (a 1, gI g 8 ss), (a 2, gI g 64 (it spr ww j))]) (w2 := [(a 0, .inr (1, [.ref (a 1), .ref (a 2), .int (nI tk)])), (a 1, gI g 8 ss), (a 2, gI g 64 (it spr ww j))]) C (c_J6_rotateRight_7cf53 l g ((it spr ww j) ((16 + j) - 2)) (nI 17)) (va_cwS 2 C.2.2.2.2.1 gX0_spreadWords_J6_rotateRight_7cf53 rfl rfl rfl (by decide +kernel) ⟨Nat.le_of_ble_eq_true rfl, Nat.le_of_ble_eq_true rfl⟩) [] [0, 1, 2] rfl rfl rfl rfl rfl (by decide) rfl rfl (Nat.le_of_ble_eq_true rfl) dX0_spreadWords_50 ⟨Nat.le_of_ble_eq_true rfl, Nat.le_of_ble_eq_true rfl⟩ rfl ?_
      refine g_iload_n C dX0_spreadWords_53 rfl 1 rfl ?_
      refine g_bipush (v := nI 19) C dX0_spreadWords_54 (by decide) ?_
      refine g_callS1 (wr := [(a 0, .inr (1, [.ref (a 1), .ref (a 2), .int (nI tk)])), (a 1, gI g 8 ss), (a 2, gI g 64 (it spr ww j))]) (w2 := [(a 0, .inr (1, [.ref (a 1), .ref (a 2), .int (nI tk)])), (a 1, gI g 8 ss), (a 2, gI g 64 (it spr ww j))]) C (c_J6_rotateRight_7cf53 l g ((it spr ww j) ((16 + j) - 2)) (nI 19)) (va_cwS 2 C.2.2.2.2.1 gX0_spreadWords_J6_rotateRight_7cf53 rfl rfl rfl (by decide +kernel) ⟨Nat.le_of_ble_eq_true rfl, Nat.le_of_ble_eq_true rfl⟩) [] [0, 1, 2] rfl rfl rfl rfl rfl (by decide) rfl rfl (Nat.le_of_ble_eq_true rfl) dX0_spreadWords_56 ⟨Nat.le_of_ble_eq_true rfl, Nat.le_of_ble_eq_true rfl⟩ rfl ?_
      refine g_ixor C dX0_spreadWords_59 ?_
      refine g_iload_n C dX0_spreadWords_60 rfl 1 rfl ?_
      refine g_bipush (v := nI 10) C dX0_spreadWords_61 (by decide) ?_
      refine g_iushr C dX0_spreadWords_63 ?_
      refine g_ixor C dX0_spreadWords_64 ?_
      refine g_istore (L' := [(5, .int (((rr ((it spr ww j) ((16 + j) - 2)) (nI 17)) ^^^ (rr ((it spr ww j) ((16 + j) - 2)) (nI 19))) ^^^ ((Int32.toUInt32 ((it spr ww j) ((16 + j) - 2)) >>> (Int32.toUInt32 (nI 10) &&& Int32.toUInt32 31)).toInt32))), (4, .int (((rr ((it spr ww j) ((16 + j) - 15)) (nI 7)) ^^^ (rr ((it spr ww j) ((16 + j) - 15)) (nI 18))) ^^^ ((Int32.toUInt32 ((it spr ww j) ((16 + j) - 15)) >>> (Int32.toUInt32 (nI 3) &&& Int32.toUInt32 31)).toInt32))), (3, .int ((it spr ww j) ((16 + j) - 2))), (2, .int ((it spr ww j) ((16 + j) - 15))), (0, .ref (a 0)), (1, .int (nI (16 + j)))]) C dX0_spreadWords_65 (by decide) rfl ?_
      refine g_aload_n C dX0_spreadWords_67 rfl 4 rfl ?_
      refine g_get C hinX0 0 rfl rfl 1 (by decide) (by decide +kernel) rfl rfl dX0_spreadWords_68 ?_
      refine g_iload_n C dX0_spreadWords_71 rfl 5 rfl ?_
      refine g_iload C dX0_spreadWords_72 0 rfl ?_
      refine g_aload_n C dX0_spreadWords_74 rfl 4 rfl ?_
      refine g_get C hinX0 0 rfl rfl 1 (by decide) (by decide +kernel) rfl rfl dX0_spreadWords_75 ?_
      refine g_iload_n C dX0_spreadWords_78 rfl 5 rfl ?_
      refine g_bipush (v := nI 7) C dX0_spreadWords_79 (by decide) ?_
      refine g_isub_n C dX0_spreadWords_81 (by omega) ?_
      refine g_iald C 2 rfl (by omega) (by decide) dX0_spreadWords_82 ?_
      refine g_iadd C dX0_spreadWords_83 ?_
      refine g_iload C dX0_spreadWords_84 1 rfl ?_
      refine g_iadd C dX0_spreadWords_86 ?_
      refine g_aload_n C dX0_spreadWords_87 rfl 4 rfl ?_
      refine g_get C hinX0 0 rfl rfl 1 (by decide) (by decide +kernel) rfl rfl dX0_spreadWords_88 ?_
      refine g_iload_n C dX0_spreadWords_91 rfl 5 rfl ?_
      refine g_bipush (v := nI 16) C dX0_spreadWords_92 (by decide) ?_
      refine g_isub_n C dX0_spreadWords_94 (by omega) ?_
      refine g_iald C 2 rfl (by omega) (by decide) dX0_spreadWords_95 ?_
      refine g_iadd C dX0_spreadWords_96 ?_
      refine g_iast (w2 := [(a 0, .inr (1, [.ref (a 1), .ref (a 2), .int (nI tk)])), (a 1, gI g 8 ss), (a 2, gI g 64 (va_up (it spr ww j) (16 + j) ((((((rr ((it spr ww j) ((16 + j) - 2)) (nI 17)) ^^^ (rr ((it spr ww j) ((16 + j) - 2)) (nI 19))) ^^^ ((Int32.toUInt32 ((it spr ww j) ((16 + j) - 2)) >>> (Int32.toUInt32 (nI 10) &&& Int32.toUInt32 31)).toInt32)) + ((it spr ww j) ((16 + j) - 7))) + (((rr ((it spr ww j) ((16 + j) - 15)) (nI 7)) ^^^ (rr ((it spr ww j) ((16 + j) - 15)) (nI 18))) ^^^ ((Int32.toUInt32 ((it spr ww j) ((16 + j) - 15)) >>> (Int32.toUInt32 (nI 3) &&& Int32.toUInt32 31)).toInt32))) + ((it spr ww j) ((16 + j) - 16)))))]) C 2 rfl (by omega) (by decide) rfl dX0_spreadWords_97 ?_
      refine g_iinc_n (d := 1) (L' := [(1, .int (nI ((16 + j) + 1))), (5, .int (((rr ((it spr ww j) ((16 + j) - 2)) (nI 17)) ^^^ (rr ((it spr ww j) ((16 + j) - 2)) (nI 19))) ^^^ ((Int32.toUInt32 ((it spr ww j) ((16 + j) - 2)) >>> (Int32.toUInt32 (nI 10) &&& Int32.toUInt32 31)).toInt32))), (4, .int (((rr ((it spr ww j) ((16 + j) - 15)) (nI 7)) ^^^ (rr ((it spr ww j) ((16 + j) - 15)) (nI 18))) ^^^ ((Int32.toUInt32 ((it spr ww j) ((16 + j) - 15)) >>> (Int32.toUInt32 (nI 3) &&& Int32.toUInt32 31)).toInt32))), (3, .int ((it spr ww j) ((16 + j) - 2))), (2, .int ((it spr ww j) ((16 + j) - 15))), (0, .ref (a 0))]) C dX0_spreadWords_98 5 rfl (by decide) (by decide) rfl ?_
      refine g_goto (tgt := 3) C dX0_spreadWords_101 (by decide) ?_
      refine g_L (L2 := [(0, .ref (a 0)), (1, .int (nI ((16 + j) + 1)))]) [5, 0] rfl ?_
      exact ihj (trivial)
set_option maxHeartbeats 4000000 in
set_option maxRecDepth 100000 in
theorem c_X0_mixBlock (l : Launch) (g : gE) (a : Nat → Nat) (tk : Nat) (ss ww : Nat → Int32) : Kt l g yX0_mixBlock wsX0_mixBlock 1 21 0 0 [.ref (a 0)] [(a 0, .inr (1, [.ref (a 1), .ref (a 2), .int (nI tk)])), (a 1, gI g 8 ss), (a 2, gI g 64 ww)] (kR none [(a 0, .inr (1, [.ref (a 1), .ref (a 2), .int (nI tk)])), (a 1, gI g 8 (shaAdd ss (it (shaR ww) ss 64))), (a 2, gI g 64 ww)]) := by
  have hinX0 : ∀ w ∈ wsX00, w ∈ wsX0_mixBlock := by
    intro w h
    unfold wsX0_mixBlock
    simp only [List.mem_cons, List.mem_append]
    simp only [h, or_true, true_or]
  refine g_enter (cc := cX0_mixBlock) (maxL := 14) (ret := none) (own := RX0) (L := [(0, .ref (a 0))]) (by decide) rfl rfl (Nat.le_of_ble_eq_true rfl) rfl ?_
  intro p e s m args below meth c hin0 C
  refine g_aload_n C dX0_mixBlock_0 rfl 0 rfl ?_
  refine g_get C hinX0 0 rfl rfl 0 (by decide) (by decide +kernel) rfl rfl dX0_mixBlock_1 ?_
  refine g_iconst (v := nI 0) C dX0_mixBlock_4 (by decide) ?_
  refine g_iald C 1 rfl (by omega) (by decide) dX0_mixBlock_5 ?_
  refine g_istore_n (L' := [(1, .int (ss 0)), (0, .ref (a 0))]) C dX0_mixBlock_6 rfl (by decide) rfl ?_
  refine g_aload_n C dX0_mixBlock_7 rfl 1 rfl ?_
  refine g_get C hinX0 0 rfl rfl 0 (by decide) (by decide +kernel) rfl rfl dX0_mixBlock_8 ?_
  refine g_iconst (v := nI 1) C dX0_mixBlock_11 (by decide) ?_
  refine g_iald C 1 rfl (by omega) (by decide) dX0_mixBlock_12 ?_
  refine g_istore_n (L' := [(2, .int (ss 1)), (1, .int (ss 0)), (0, .ref (a 0))]) C dX0_mixBlock_13 rfl (by decide) rfl ?_
  refine g_aload_n C dX0_mixBlock_14 rfl 2 rfl ?_
  refine g_get C hinX0 0 rfl rfl 0 (by decide) (by decide +kernel) rfl rfl dX0_mixBlock_15 ?_
  refine g_iconst (v := nI 2) C dX0_mixBlock_18 (by decide) ?_
  refine g_iald C 1 rfl (by omega) (by decide) dX0_mixBlock_19 ?_
  refine g_istore_n (L' := [(3, .int (ss 2)), (2, .int (ss 1)), (1, .int (ss 0)), (0, .ref (a 0))]) C dX0_mixBlock_20 rfl (by decide) rfl ?_
  refine g_aload_n C dX0_mixBlock_21 rfl 3 rfl ?_
  refine g_get C hinX0 0 rfl rfl 0 (by decide) (by decide +kernel) rfl rfl dX0_mixBlock_22 ?_
  refine g_iconst (v := nI 3) C dX0_mixBlock_25 (by decide) ?_
  refine g_iald C 1 rfl (by omega) (by decide) dX0_mixBlock_26 ?_
  refine g_istore (L' := [(4, .int (ss 3)), (3, .int (ss 2)), (2, .int (ss 1)), (1, .int (ss 0)), (0, .ref (a 0))]) C dX0_mixBlock_27 (by decide) rfl ?_
  refine g_aload_n C dX0_mixBlock_29 rfl 4 rfl ?_
  refine g_get C hinX0 0 rfl rfl 0 (by decide) (by decide +kernel) rfl rfl dX0_mixBlock_30 ?_
  refine g_iconst (v := nI 4) C dX0_mixBlock_33 (by decide) ?_
  refine g_iald C 1 rfl (by omega) (by decide) dX0_mixBlock_34 ?_
  refine g_istore (L' := [(5, .int (ss 4)), (4, .int (ss 3)), (3, .int (ss 2)), (2, .int (ss 1)), (1, .int (ss 0)), (0, .ref (a 0))]) C dX0_mixBlock_35 (by decide) rfl ?_
  refine g_aload_n C dX0_mixBlock_37 rfl 5 rfl ?_
  refine g_get C hinX0 0 rfl rfl 0 (by decide) (by decide +kernel) rfl rfl dX0_mixBlock_38 ?_
  refine g_iconst (v := nI 5) C dX0_mixBlock_41 (by decide) ?_
  refine g_iald C 1 rfl (by omega) (by decide) dX0_mixBlock_42 ?_
  refine g_istore (L' := [(6, .int (ss 5)), (5, .int (ss 4)), (4, .int (ss 3)), (3, .int (ss 2)), (2, .int (ss 1)), (1, .int (ss 0)), (0, .ref (a 0))]) C dX0_mixBlock_43 (by decide) rfl ?_
  refine g_aload_n C dX0_mixBlock_45 rfl 6 rfl ?_
  refine g_get C hinX0 0 rfl rfl 0 (by decide) (by decide +kernel) rfl rfl dX0_mixBlock_46 ?_
  refine g_bipush (v := nI 6) C dX0_mixBlock_49 (by decide) ?_
  refine g_iald C 1 rfl (by omega) (by decide) dX0_mixBlock_51 ?_
  refine g_istore (L' := [(7, .int (ss 6)), (6, .int (ss 5)), (5, .int (ss 4)), (4, .int (ss 3)), (3, .int (ss 2)), (2, .int (ss 1)), (1, .int (ss 0)), (0, .ref (a 0))]) C dX0_mixBlock_52 (by decide) rfl ?_
  refine g_aload_n C dX0_mixBlock_54 rfl 7 rfl ?_
  refine g_get C hinX0 0 rfl rfl 0 (by decide) (by decide +kernel) rfl rfl dX0_mixBlock_55 ?_
  refine g_bipush (v := nI 7) C dX0_mixBlock_58 (by decide) ?_
  refine g_iald C 1 rfl (by omega) (by decide) dX0_mixBlock_60 ?_
  refine g_istore (L' := [(8, .int (ss 7)), (7, .int (ss 6)), (6, .int (ss 5)), (5, .int (ss 4)), (4, .int (ss 3)), (3, .int (ss 2)), (2, .int (ss 1)), (1, .int (ss 0)), (0, .ref (a 0))]) C dX0_mixBlock_61 (by decide) rfl ?_
  refine g_iconst (v := nI 0) C dX0_mixBlock_63 (by decide) ?_
  refine g_istore (L' := [(9, .int (nI 0)), (8, .int (ss 7)), (7, .int (ss 6)), (6, .int (ss 5)), (5, .int (ss 4)), (4, .int (ss 3)), (3, .int (ss 2)), (2, .int (ss 1)), (1, .int (ss 0)), (0, .ref (a 0))]) C dX0_mixBlock_64 (by decide) rfl ?_
  refine g_L (L2 := [(0, .ref (a 0)), (1, .int (ss 0)), (2, .int (ss 1)), (3, .int (ss 2)), (4, .int (ss 3)), (5, .int (ss 4)), (6, .int (ss 5)), (7, .int (ss 6)), (8, .int (ss 7)), (9, .int (nI 0))]) [9, 8, 7, 6, 5, 4, 3, 2, 1, 0] rfl ?_
  refine g_up 64 0 (fun _ => True) (fun j => [(0, .ref (a 0)), (1, .int (it (shaR ww) ss j 0)), (2, .int (it (shaR ww) ss j 1)), (3, .int (it (shaR ww) ss j 2)), (4, .int (it (shaR ww) ss j 3)), (5, .int (it (shaR ww) ss j 4)), (6, .int (it (shaR ww) ss j 5)), (7, .int (it (shaR ww) ss j 6)), (8, .int (it (shaR ww) ss j 7)), (9, .int (nI j))]) (fun j => [(a 0, .inr (1, [.ref (a 1), .ref (a 2), .int (nI tk)])), (a 1, gI g 8 ss), (a 2, gI g 64 ww)]) (by omega) (trivial) ?_ ?_
  · intro hPj
    try dsimp only
    refine g_iload C dX0_mixBlock_66 9 rfl ?_
    refine g_bipush (v := nI 64) C dX0_mixBlock_68 (by decide) ?_
    refine g_icmp_ge_n (tgt := 209) C dX0_mixBlock_70 (by decide) (by omega) (by omega) (fun c70 => ?_) (fun c70 => ?_)
    · skip
      refine g_aload_n C dX0_mixBlock_209 rfl 0 rfl ?_
      refine g_get C hinX0 0 rfl rfl 0 (by decide) (by decide +kernel) rfl rfl dX0_mixBlock_210 ?_
      refine g_iconst (v := nI 0) C dX0_mixBlock_213 (by decide) ?_
      refine g_dup2 C dX0_mixBlock_214 rfl rfl ?_
      refine g_iald C 1 rfl (by omega) (by decide) dX0_mixBlock_215 ?_
      refine g_iload_n C dX0_mixBlock_216 rfl 1 rfl ?_
      refine g_iadd C dX0_mixBlock_217 ?_
      refine g_iast (w2 := [(a 0, .inr (1, [.ref (a 1), .ref (a 2), .int (nI tk)])), (a 1, gI g 8 (va_up ss 0 ((ss 0) + (it (shaR ww) ss 64 0)))), (a 2, gI g 64 ww)]) C 1 rfl (by omega) (by decide) rfl dX0_mixBlock_218 ?_
      refine g_aload_n C dX0_mixBlock_219 rfl 0 rfl ?_
      refine g_get C hinX0 0 rfl rfl 0 (by decide) (by decide +kernel) rfl rfl dX0_mixBlock_220 ?_
      refine g_iconst (v := nI 1) C dX0_mixBlock_223 (by decide) ?_
      refine g_dup2 C dX0_mixBlock_224 rfl rfl ?_
      refine g_iald C 1 rfl (by omega) (by decide) dX0_mixBlock_225 ?_
      refine g_iload_n C dX0_mixBlock_226 rfl 2 rfl ?_
      refine g_iadd C dX0_mixBlock_227 ?_
      refine g_iast (w2 := [(a 0, .inr (1, [.ref (a 1), .ref (a 2), .int (nI tk)])), (a 1, gI g 8 (va_up (va_up ss 0 ((ss 0) + (it (shaR ww) ss 64 0))) 1 (((va_up ss 0 ((ss 0) + (it (shaR ww) ss 64 0))) 1) + (it (shaR ww) ss 64 1)))), (a 2, gI g 64 ww)]) C 1 rfl (by omega) (by decide) rfl dX0_mixBlock_228 ?_
      refine g_aload_n C dX0_mixBlock_229 rfl 0 rfl ?_
      refine g_get C hinX0 0 rfl rfl 0 (by decide) (by decide +kernel) rfl rfl dX0_mixBlock_230 ?_
      refine g_iconst (v := nI 2) C dX0_mixBlock_233 (by decide) ?_
      refine g_dup2 C dX0_mixBlock_234 rfl rfl ?_
      refine g_iald C 1 rfl (by omega) (by decide) dX0_mixBlock_235 ?_
      refine g_iload_n C dX0_mixBlock_236 rfl 3 rfl ?_
      refine g_iadd C dX0_mixBlock_237 ?_
      refine g_iast (w2 := [(a 0, .inr (1, [.ref (a 1), .ref (a 2), .int (nI tk)])), (a 1, gI g 8 (va_up (va_up (va_up ss 0 ((ss 0) + (it (shaR ww) ss 64 0))) 1 (((va_up ss 0 ((ss 0) + (it (shaR ww) ss 64 0))) 1) + (it (shaR ww) ss 64 1))) 2 (((va_up (va_up ss 0 ((ss 0) + (it (shaR ww) ss 64 0))) 1 (((va_up ss 0 ((ss 0) + (it (shaR ww) ss 64 0))) 1) + (it (shaR ww) ss 64 1))) 2) + (it (shaR ww) ss 64 2)))), (a 2, gI g 64 ww)]) C 1 rfl (by omega) (by decide) rfl dX0_mixBlock_238 ?_
      refine g_aload_n C dX0_mixBlock_239 rfl 0 rfl ?_
      refine g_get C hinX0 0 rfl rfl 0 (by decide) (by decide +kernel) rfl rfl dX0_mixBlock_240 ?_
      refine g_iconst (v := nI 3) C dX0_mixBlock_243 (by decide) ?_
      refine g_dup2 C dX0_mixBlock_244 rfl rfl ?_
      refine g_iald C 1 rfl (by omega) (by decide) dX0_mixBlock_245 ?_
      refine g_iload C dX0_mixBlock_246 4 rfl ?_
      refine g_iadd C dX0_mixBlock_248 ?_
      refine g_iast (w2 := [(a 0, .inr (1, [.ref (a 1), .ref (a 2), .int (nI tk)])), (a 1, gI g 8 (va_up (va_up (va_up (va_up ss 0 ((ss 0) + (it (shaR ww) ss 64 0))) 1 (((va_up ss 0 ((ss 0) + (it (shaR ww) ss 64 0))) 1) + (it (shaR ww) ss 64 1))) 2 (((va_up (va_up ss 0 ((ss 0) + (it (shaR ww) ss 64 0))) 1 (((va_up ss 0 ((ss 0) + (it (shaR ww) ss 64 0))) 1) + (it (shaR ww) ss 64 1))) 2) + (it (shaR ww) ss 64 2))) 3 (((va_up (va_up (va_up ss 0 ((ss 0) + (it (shaR ww) ss 64 0))) 1 (((va_up ss 0 ((ss 0) + (it (shaR ww) ss 64 0))) 1) + (it (shaR ww) ss 64 1))) 2 (((va_up (va_up ss 0 ((ss 0) + (it (shaR ww) ss 64 0))) 1 (((va_up ss 0 ((ss 0) + (it (shaR ww) ss 64 0))) 1) + (it (shaR ww) ss 64 1))) 2) + (it (shaR ww) ss 64 2))) 3) + (it (shaR ww) ss 64 3)))), (a 2, gI g 64 ww)]) C 1 rfl (by omega) (by decide) rfl dX0_mixBlock_249 ?_
      refine g_aload_n C dX0_mixBlock_250 rfl 0 rfl ?_
      refine g_get C hinX0 0 rfl rfl 0 (by decide) (by decide +kernel) rfl rfl dX0_mixBlock_251 ?_
      refine g_iconst (v := nI 4) C dX0_mixBlock_254 (by decide) ?_
      refine g_dup2 C dX0_mixBlock_255 rfl rfl ?_
      refine g_iald C 1 rfl (by omega) (by decide) dX0_mixBlock_256 ?_
      refine g_iload C dX0_mixBlock_257 5 rfl ?_
      refine g_iadd C dX0_mixBlock_259 ?_
      refine g_iast (w2 := [(a 0, .inr (1, [.ref (a 1), .ref (a 2), .int (nI tk)])), (a 1, gI g 8 (va_up (va_up (va_up (va_up (va_up ss 0 ((ss 0) + (it (shaR ww) ss 64 0))) 1 (((va_up ss 0 ((ss 0) + (it (shaR ww) ss 64 0))) 1) + (it (shaR ww) ss 64 1))) 2 (((va_up (va_up ss 0 ((ss 0) + (it (shaR ww) ss 64 0))) 1 (((va_up ss 0 ((ss 0) + (it (shaR ww) ss 64 0))) 1) + (it (shaR ww) ss 64 1))) 2) + (it (shaR ww) ss 64 2))) 3 (((va_up (va_up (va_up ss 0 ((ss 0) + (it (shaR ww) ss 64 0))) 1 (((va_up ss 0 ((ss 0) + (it (shaR ww) ss 64 0))) 1) + (it (shaR ww) ss 64 1))) 2 (((va_up (va_up ss 0 ((ss 0) + (it (shaR ww) ss 64 0))) 1 (((va_up ss 0 ((ss 0) + (it (shaR ww) ss 64 0))) 1) + (it (shaR ww) ss 64 1))) 2) + (it (shaR ww) ss 64 2))) 3) + (it (shaR ww) ss 64 3))) 4 (((va_up (va_up (va_up (va_up ss 0 ((ss 0) + (it (shaR ww) ss 64 0))) 1 (((va_up ss 0 ((ss 0) + (it (shaR ww) ss 64 0))) 1) + (it (shaR ww) ss 64 1))) 2 (((va_up (va_up ss 0 ((ss 0) + (it (shaR ww) ss 64 0))) 1 (((va_up ss 0 ((ss 0) + (it (shaR ww) ss 64 0))) 1) + (it (shaR ww) ss 64 1))) 2) + (it (shaR ww) ss 64 2))) 3 (((va_up (va_up (va_up ss 0 ((ss 0) + (it (shaR ww) ss 64 0))) 1 (((va_up ss 0 ((ss 0) + (it (shaR ww) ss 64 0))) 1) + (it (shaR ww) ss 64 1))) 2 (((va_up (va_up ss 0 ((ss 0) + (it (shaR ww) ss 64 0))) 1 (((va_up ss 0 ((ss 0) + (it (shaR ww) ss 64 0))) 1) + (it (shaR ww) ss 64 1))) 2) + (it (shaR ww) ss 64 2))) 3) + (it (shaR ww) ss 64 3))) 4) + (it (shaR ww) ss 64 4)))), (a 2, gI g 64 ww)]) C 1 rfl (by omega) (by decide) rfl dX0_mixBlock_260 ?_
      refine g_aload_n C dX0_mixBlock_261 rfl 0 rfl ?_
      refine g_get C hinX0 0 rfl rfl 0 (by decide) (by decide +kernel) rfl rfl dX0_mixBlock_262 ?_
      refine g_iconst (v := nI 5) C dX0_mixBlock_265 (by decide) ?_
      refine g_dup2 C dX0_mixBlock_266 rfl rfl ?_
      refine g_iald C 1 rfl (by omega) (by decide) dX0_mixBlock_267 ?_
      refine g_iload C dX0_mixBlock_268 6 rfl ?_
      refine g_iadd C dX0_mixBlock_270 ?_
      refine g_iast (w2 := [(a 0, .inr (1, [.ref (a 1), .ref (a 2), .int (nI tk)])), (a 1, gI g 8 (va_up (va_up (va_up (va_up (va_up (va_up ss 0 ((ss 0) + (it (shaR ww) ss 64 0))) 1 (((va_up ss 0 ((ss 0) + (it (shaR ww) ss 64 0))) 1) + (it (shaR ww) ss 64 1))) 2 (((va_up (va_up ss 0 ((ss 0) + (it (shaR ww) ss 64 0))) 1 (((va_up ss 0 ((ss 0) + (it (shaR ww) ss 64 0))) 1) + (it (shaR ww) ss 64 1))) 2) + (it (shaR ww) ss 64 2))) 3 (((va_up (va_up (va_up ss 0 ((ss 0) + (it (shaR ww) ss 64 0))) 1 (((va_up ss 0 ((ss 0) + (it (shaR ww) ss 64 0))) 1) + (it (shaR ww) ss 64 1))) 2 (((va_up (va_up ss 0 ((ss 0) + (it (shaR ww) ss 64 0))) 1 (((va_up ss 0 ((ss 0) + (it (shaR ww) ss 64 0))) 1) + (it (shaR ww) ss 64 1))) 2) + (it (shaR ww) ss 64 2))) 3) + (it (shaR ww) ss 64 3))) 4 (((va_up (va_up (va_up (va_up ss 0 ((ss 0) + (it (shaR ww) ss 64 0))) 1 (((va_up ss 0 ((ss 0) + (it (shaR ww) ss 64 0))) 1) + (it (shaR ww) ss 64 1))) 2 (((va_up (va_up ss 0 ((ss 0) + (it (shaR ww) ss 64 0))) 1 (((va_up ss 0 ((ss 0) + (it (shaR ww) ss 64 0))) 1) + (it (shaR ww) ss 64 1))) 2) + (it (shaR ww) ss 64 2))) 3 (((va_up (va_up (va_up ss 0 ((ss 0) + (it (shaR ww) ss 64 0))) 1 (((va_up ss 0 ((ss 0) + (it (shaR ww) ss 64 0))) 1) + (it (shaR ww) ss 64 1))) 2 (((va_up (va_up ss 0 ((ss 0) + (it (shaR ww) ss 64 0))) 1 (((va_up ss 0 ((ss 0) + (it (shaR ww) ss 64 0))) 1) + (it (shaR ww) ss 64 1))) 2) + (it (shaR ww) ss 64 2))) 3) + (it (shaR ww) ss 64 3))) 4) + (it (shaR ww) ss 64 4))) 5 (((va_up (va_up (va_up (va_up (va_up ss 0 ((ss 0) + (it (shaR ww) ss 64 0))) 1 (((va_up ss 0 ((ss 0) + (it (shaR ww) ss 64 0))) 1) + (it (shaR ww) ss 64 1))) 2 (((va_up (va_up ss 0 ((ss 0) + (it (shaR ww) ss 64 0))) 1 (((va_up ss 0 ((ss 0) + (it (shaR ww) ss 64 0))) 1) + (it (shaR ww) ss 64 1))) 2) + (it (shaR ww) ss 64 2))) 3 (((va_up (va_up (va_up ss 0 ((ss 0) + (it (shaR ww) ss 64 0))) 1 (((va_up ss 0 ((ss 0) + (it (shaR ww) ss 64 0))) 1) + (it (shaR ww) ss 64 1))) 2 (((va_up (va_up ss 0 ((ss 0) + (it (shaR ww) ss 64 0))) 1 (((va_up ss 0 ((ss 0) + (it (shaR ww) ss 64 0))) 1) + (it (shaR ww) ss 64 1))) 2) + (it (shaR ww) ss 64 2))) 3) + (it (shaR ww) ss 64 3))) 4 (((va_up (va_up (va_up (va_up ss 0 ((ss 0) + (it (shaR ww) ss 64 0))) 1 (((va_up ss 0 ((ss 0) + (it (shaR ww) ss 64 0))) 1) + (it (shaR ww) ss 64 1))) 2 (((va_up (va_up ss 0 ((ss 0) + (it (shaR ww) ss 64 0))) 1 (((va_up ss 0 ((ss 0) + (it (shaR ww) ss 64 0))) 1) + (it (shaR ww) ss 64 1))) 2) + (it (shaR ww) ss 64 2))) 3 (((va_up (va_up (va_up ss 0 ((ss 0) + (it (shaR ww) ss 64 0))) 1 (((va_up ss 0 ((ss 0) + (it (shaR ww) ss 64 0))) 1) + (it (shaR ww) ss 64 1))) 2 (((va_up (va_up ss 0 ((ss 0) + (it (shaR ww) ss 64 0))) 1 (((va_up ss 0 ((ss 0) + (it (shaR ww) ss 64 0))) 1) + (it (shaR ww) ss 64 1))) 2) + (it (shaR ww) ss 64 2))) 3) + (it (shaR ww) ss 64 3))) 4) + (it (shaR ww) ss 64 4))) 5) + (it (shaR ww) ss 64 5)))), (a 2, gI g 64 ww)]) C 1 rfl (by omega) (by decide) rfl dX0_mixBlock_271 ?_
      refine g_aload_n C dX0_mixBlock_272 rfl 0 rfl ?_
      refine g_get C hinX0 0 rfl rfl 0 (by decide) (by decide +kernel) rfl rfl dX0_mixBlock_273 ?_
      refine g_bipush (v := nI 6) C dX0_mixBlock_276 (by decide) ?_
      refine g_dup2 C dX0_mixBlock_278 rfl rfl ?_
      refine g_iald C 1 rfl (by omega) (by decide) dX0_mixBlock_279 ?_
      refine g_iload C dX0_mixBlock_280 7 rfl ?_
      refine g_iadd C dX0_mixBlock_282 ?_
      refine g_iast (w2 := [(a 0, .inr (1, [.ref (a 1), .ref (a 2), .int (nI tk)])), (a 1, gI g 8 (va_up (va_up (va_up (va_up (va_up (va_up (va_up ss 0 ((ss 0) + (it (shaR ww) ss 64 0))) 1 (((va_up ss 0 ((ss 0) + (it (shaR ww) ss 64 0))) 1) + (it (shaR ww) ss 64 1))) 2 (((va_up (va_up ss 0 ((ss 0) + (it (shaR ww) ss 64 0))) 1 (((va_up ss 0 ((ss 0) + (it (shaR ww) ss 64 0))) 1) + (it (shaR ww) ss 64 1))) 2) + (it (shaR ww) ss 64 2))) 3 (((va_up (va_up (va_up ss 0 ((ss 0) + (it (shaR ww) ss 64 0))) 1 (((va_up ss 0 ((ss 0) + (it (shaR ww) ss 64 0))) 1) + (it (shaR ww) ss 64 1))) 2 (((va_up (va_up ss 0 ((ss 0) + (it (shaR ww) ss 64 0))) 1 (((va_up ss 0 ((ss 0) + (it (shaR ww) ss 64 0))) 1) + (it (shaR ww) ss 64 1))) 2) + (it (shaR ww) ss 64 2))) 3) + (it (shaR ww) ss 64 3))) 4 (((va_up (va_up (va_up (va_up ss 0 ((ss 0) + (it (shaR ww) ss 64 0))) 1 (((va_up ss 0 ((ss 0) + (it (shaR ww) ss 64 0))) 1) + (it (shaR ww) ss 64 1))) 2 (((va_up (va_up ss 0 ((ss 0) + (it (shaR ww) ss 64 0))) 1 (((va_up ss 0 ((ss 0) + (it (shaR ww) ss 64 0))) 1) + (it (shaR ww) ss 64 1))) 2) + (it (shaR ww) ss 64 2))) 3 (((va_up (va_up (va_up ss 0 ((ss 0) + (it (shaR ww) ss 64 0))) 1 (((va_up ss 0 ((ss 0) + (it (shaR ww) ss 64 0))) 1) + (it (shaR ww) ss 64 1))) 2 (((va_up (va_up ss 0 ((ss 0) + (it (shaR ww) ss 64 0))) 1 (((va_up ss 0 ((ss 0) + (it (shaR ww) ss 64 0))) 1) + (it (shaR ww) ss 64 1))) 2) + (it (shaR ww) ss 64 2))) 3) + (it (shaR ww) ss 64 3))) 4) + (it (shaR ww) ss 64 4))) 5 (((va_up (va_up (va_up (va_up (va_up ss 0 ((ss 0) + (it (shaR ww) ss 64 0))) 1 (((va_up ss 0 ((ss 0) + (it (shaR ww) ss 64 0))) 1) + (it (shaR ww) ss 64 1))) 2 (((va_up (va_up ss 0 ((ss 0) + (it (shaR ww) ss 64 0))) 1 (((va_up ss 0 ((ss 0) + (it (shaR ww) ss 64 0))) 1) + (it (shaR ww) ss 64 1))) 2) + (it (shaR ww) ss 64 2))) 3 (((va_up (va_up (va_up ss 0 ((ss 0) + (it (shaR ww) ss 64 0))) 1 (((va_up ss 0 ((ss 0) + (it (shaR ww) ss 64 0))) 1) + (it (shaR ww) ss 64 1))) 2 (((va_up (va_up ss 0 ((ss 0) + (it (shaR ww) ss 64 0))) 1 (((va_up ss 0 ((ss 0) + (it (shaR ww) ss 64 0))) 1) + (it (shaR ww) ss 64 1))) 2) + (it (shaR ww) ss 64 2))) 3) + (it (shaR ww) ss 64 3))) 4 (((va_up (va_up (va_up (va_up ss 0 ((ss 0) + (it (shaR ww) ss 64 0))) 1 (((va_up ss 0 ((ss 0) + (it (shaR ww) ss 64 0))) 1) + (it (shaR ww) ss 64 1))) 2 (((va_up (va_up ss 0 ((ss 0) + (it (shaR ww) ss 64 0))) 1 (((va_up ss 0 ((ss 0) + (it (shaR ww) ss 64 0))) 1) + (it (shaR ww) ss 64 1))) 2) + (it (shaR ww) ss 64 2))) 3 (((va_up (va_up (va_up ss 0 ((ss 0) + (it (shaR ww) ss 64 0))) 1 (((va_up ss 0 ((ss 0) + (it (shaR ww) ss 64 0))) 1) + (it (shaR ww) ss 64 1))) 2 (((va_up (va_up ss 0 ((ss 0) + (it (shaR ww) ss 64 0))) 1 (((va_up ss 0 ((ss 0) + (it (shaR ww) ss 64 0))) 1) + (it (shaR ww) ss 64 1))) 2) + (it (shaR ww) ss 64 2))) 3) + (it (shaR ww) ss 64 3))) 4) + (it (shaR ww) ss 64 4))) 5) + (it (shaR ww) ss 64 5))) 6 (((va_up (va_up (va_up (va_up (va_up (va_up ss 0 ((ss 0) + (it (shaR ww) ss 64 0))) 1 (((va_up ss 0 ((ss 0) + (it (shaR ww) ss 64 0))) 1) + (it (shaR ww) ss 64 1))) 2 (((va_up (va_up ss 0 ((ss 0) + (it (shaR ww) ss 64 0))) 1 (((va_up ss 0 ((ss 0) + (it (shaR ww) ss 64 0))) 1) + (it (shaR ww) ss 64 1))) 2) + (it (shaR ww) ss 64 2))) 3 (((va_up (va_up (va_up ss 0 ((ss 0) + (it (shaR ww) ss 64 0))) 1 (((va_up ss 0 ((ss 0) + (it (shaR ww) ss 64 0))) 1) + (it (shaR ww) ss 64 1))) 2 (((va_up (va_up ss 0 ((ss 0) + (it (shaR ww) ss 64 0))) 1 (((va_up ss 0 ((ss 0) + (it (shaR ww) ss 64 0))) 1) + (it (shaR ww) ss 64 1))) 2) + (it (shaR ww) ss 64 2))) 3) + (it (shaR ww) ss 64 3))) 4 (((va_up (va_up (va_up (va_up ss 0 ((ss 0) + (it (shaR ww) ss 64 0))) 1 (((va_up ss 0 ((ss 0) + (it (shaR ww) ss 64 0))) 1) + (it (shaR ww) ss 64 1))) 2 (((va_up (va_up ss 0 ((ss 0) + (it (shaR ww) ss 64 0))) 1 (((va_up ss 0 ((ss 0) + (it (shaR ww) ss 64 0))) 1) + (it (shaR ww) ss 64 1))) 2) + (it (shaR ww) ss 64 2))) 3 (((va_up (va_up (va_up ss 0 ((ss 0) + (it (shaR ww) ss 64 0))) 1 (((va_up ss 0 ((ss 0) + (it (shaR ww) ss 64 0))) 1) + (it (shaR ww) ss 64 1))) 2 (((va_up (va_up ss 0 ((ss 0) + (it (shaR ww) ss 64 0))) 1 (((va_up ss 0 ((ss 0) + (it (shaR ww) ss 64 0))) 1) + (it (shaR ww) ss 64 1))) 2) + (it (shaR ww) ss 64 2))) 3) + (it (shaR ww) ss 64 3))) 4) + (it (shaR ww) ss 64 4))) 5 (((va_up (va_up (va_up (va_up (va_up ss 0 ((ss 0) + (it (shaR ww) ss 64 0))) 1 (((va_up ss 0 ((ss 0) + (it (shaR ww) ss 64 0))) 1) + (it (shaR ww) ss 64 1))) 2 (((va_up (va_up ss 0 ((ss 0) + (it (shaR ww) ss 64 0))) 1 (((va_up ss 0 ((ss 0) + (it (shaR ww) ss 64 0))) 1) + (it (shaR ww) ss 64 1))) 2) + (it (shaR ww) ss 64 2))) 3 (((va_up (va_up (va_up ss 0 ((ss 0) + (it (shaR ww) ss 64 0))) 1 (((va_up ss 0 ((ss 0) + (it (shaR ww) ss 64 0))) 1) + (it (shaR ww) ss 64 1))) 2 (((va_up (va_up ss 0 ((ss 0) + (it (shaR ww) ss 64 0))) 1 (((va_up ss 0 ((ss 0) + (it (shaR ww) ss 64 0))) 1) + (it (shaR ww) ss 64 1))) 2) + (it (shaR ww) ss 64 2))) 3) + (it (shaR ww) ss 64 3))) 4 (((va_up (va_up (va_up (va_up ss 0 ((ss 0) + (it (shaR ww) ss 64 0))) 1 (((va_up ss 0 ((ss 0) + (it (shaR ww) ss 64 0))) 1) + (it (shaR ww) ss 64 1))) 2 (((va_up (va_up ss 0 ((ss 0) + (it (shaR ww) ss 64 0))) 1 (((va_up ss 0 ((ss 0) + (it (shaR ww) ss 64 0))) 1) + (it (shaR ww) ss 64 1))) 2) + (it (shaR ww) ss 64 2))) 3 (((va_up (va_up (va_up ss 0 ((ss 0) + (it (shaR ww) ss 64 0))) 1 (((va_up ss 0 ((ss 0) + (it (shaR ww) ss 64 0))) 1) + (it (shaR ww) ss 64 1))) 2 (((va_up (va_up ss 0 ((ss 0) + (it (shaR ww) ss 64 0))) 1 (((va_up ss 0 ((ss 0) + (it (shaR ww) ss 64 0))) 1) + (it (shaR ww) ss 64 1))) 2) + (it (shaR ww) ss 64 2))) 3) + (it (shaR ww) ss 64 3))) 4) + (it (shaR ww) ss 64 4))) 5) + (it (shaR ww) ss 64 5))) 6) + (it (shaR ww) ss 64 6)))), (a 2, gI g 64 ww)]) C 1 rfl (by omega) (by decide) rfl dX0_mixBlock_283 ?_
      refine g_aload_n C dX0_mixBlock_284 rfl 0 rfl ?_
      refine g_get C hinX0 0 rfl rfl 0 (by decide) (by decide +kernel) rfl rfl dX0_mixBlock_285 ?_
      refine g_bipush (v := nI 7) C dX0_mixBlock_288 (by decide) ?_
      refine g_dup2 C dX0_mixBlock_290 rfl rfl ?_
      refine g_iald C 1 rfl (by omega) (by decide) dX0_mixBlock_291 ?_
      refine g_iload C dX0_mixBlock_292 8 rfl ?_
      refine g_iadd C dX0_mixBlock_294 ?_
      refine g_iast (w2 := [(a 0, .inr (1, [.ref (a 1), .ref (a 2), .int (nI tk)])), (a 1, gI g 8 (va_up (va_up (va_up (va_up (va_up (va_up (va_up (va_up ss 0 ((ss 0) + (it (shaR ww) ss 64 0))) 1 (((va_up ss 0 ((ss 0) + (it (shaR ww) ss 64 0))) 1) + (it (shaR ww) ss 64 1))) 2 (((va_up (va_up ss 0 ((ss 0) + (it (shaR ww) ss 64 0))) 1 (((va_up ss 0 ((ss 0) + (it (shaR ww) ss 64 0))) 1) + (it (shaR ww) ss 64 1))) 2) + (it (shaR ww) ss 64 2))) 3 (((va_up (va_up (va_up ss 0 ((ss 0) + (it (shaR ww) ss 64 0))) 1 (((va_up ss 0 ((ss 0) + (it (shaR ww) ss 64 0))) 1) + (it (shaR ww) ss 64 1))) 2 (((va_up (va_up ss 0 ((ss 0) + (it (shaR ww) ss 64 0))) 1 (((va_up ss 0 ((ss 0) + (it (shaR ww) ss 64 0))) 1) + (it (shaR ww) ss 64 1))) 2) + (it (shaR ww) ss 64 2))) 3) + (it (shaR ww) ss 64 3))) 4 (((va_up (va_up (va_up (va_up ss 0 ((ss 0) + (it (shaR ww) ss 64 0))) 1 (((va_up ss 0 ((ss 0) + (it (shaR ww) ss 64 0))) 1) + (it (shaR ww) ss 64 1))) 2 (((va_up (va_up ss 0 ((ss 0) + (it (shaR ww) ss 64 0))) 1 (((va_up ss 0 ((ss 0) + (it (shaR ww) ss 64 0))) 1) + (it (shaR ww) ss 64 1))) 2) + (it (shaR ww) ss 64 2))) 3 (((va_up (va_up (va_up ss 0 ((ss 0) + (it (shaR ww) ss 64 0))) 1 (((va_up ss 0 ((ss 0) + (it (shaR ww) ss 64 0))) 1) + (it (shaR ww) ss 64 1))) 2 (((va_up (va_up ss 0 ((ss 0) + (it (shaR ww) ss 64 0))) 1 (((va_up ss 0 ((ss 0) + (it (shaR ww) ss 64 0))) 1) + (it (shaR ww) ss 64 1))) 2) + (it (shaR ww) ss 64 2))) 3) + (it (shaR ww) ss 64 3))) 4) + (it (shaR ww) ss 64 4))) 5 (((va_up (va_up (va_up (va_up (va_up ss 0 ((ss 0) + (it (shaR ww) ss 64 0))) 1 (((va_up ss 0 ((ss 0) + (it (shaR ww) ss 64 0))) 1) + (it (shaR ww) ss 64 1))) 2 (((va_up (va_up ss 0 ((ss 0) + (it (shaR ww) ss 64 0))) 1 (((va_up ss 0 ((ss 0) + (it (shaR ww) ss 64 0))) 1) + (it (shaR ww) ss 64 1))) 2) + (it (shaR ww) ss 64 2))) 3 (((va_up (va_up (va_up ss 0 ((ss 0) + (it (shaR ww) ss 64 0))) 1 (((va_up ss 0 ((ss 0) + (it (shaR ww) ss 64 0))) 1) + (it (shaR ww) ss 64 1))) 2 (((va_up (va_up ss 0 ((ss 0) + (it (shaR ww) ss 64 0))) 1 (((va_up ss 0 ((ss 0) + (it (shaR ww) ss 64 0))) 1) + (it (shaR ww) ss 64 1))) 2) + (it (shaR ww) ss 64 2))) 3) + (it (shaR ww) ss 64 3))) 4 (((va_up (va_up (va_up (va_up ss 0 ((ss 0) + (it (shaR ww) ss 64 0))) 1 (((va_up ss 0 ((ss 0) + (it (shaR ww) ss 64 0))) 1) + (it (shaR ww) ss 64 1))) 2 (((va_up (va_up ss 0 ((ss 0) + (it (shaR ww) ss 64 0))) 1 (((va_up ss 0 ((ss 0) + (it (shaR ww) ss 64 0))) 1) + (it (shaR ww) ss 64 1))) 2) + (it (shaR ww) ss 64 2))) 3 (((va_up (va_up (va_up ss 0 ((ss 0) + (it (shaR ww) ss 64 0))) 1 (((va_up ss 0 ((ss 0) + (it (shaR ww) ss 64 0))) 1) + (it (shaR ww) ss 64 1))) 2 (((va_up (va_up ss 0 ((ss 0) + (it (shaR ww) ss 64 0))) 1 (((va_up ss 0 ((ss 0) + (it (shaR ww) ss 64 0))) 1) + (it (shaR ww) ss 64 1))) 2) + (it (shaR ww) ss 64 2))) 3) + (it (shaR ww) ss 64 3))) 4) + (it (shaR ww) ss 64 4))) 5) + (it (shaR ww) ss 64 5))) 6 (((va_up (va_up (va_up (va_up (va_up (va_up ss 0 ((ss 0) + (it (shaR ww) ss 64 0))) 1 (((va_up ss 0 ((ss 0) + (it (shaR ww) ss 64 0))) 1) + (it (shaR ww) ss 64 1))) 2 (((va_up (va_up ss 0 ((ss 0) + (it (shaR ww) ss 64 0))) 1 (((va_up ss 0 ((ss 0) + (it (shaR ww) ss 64 0))) 1) + (it (shaR ww) ss 64 1))) 2) + (it (shaR ww) ss 64 2))) 3 (((va_up (va_up (va_up ss 0 ((ss 0) + (it (shaR ww) ss 64 0))) 1 (((va_up ss 0 ((ss 0) + (it (shaR ww) ss 64 0))) 1) + (it (shaR ww) ss 64 1))) 2 (((va_up (va_up ss 0 ((ss 0) + (it (shaR ww) ss 64 0))) 1 (((va_up ss 0 ((ss 0) + (it (shaR ww) ss 64 0))) 1) + (it (shaR ww) ss 64 1))) 2) + (it (shaR ww) ss 64 2))) 3) + (it (shaR ww) ss 64 3))) 4 (((va_up (va_up (va_up (va_up ss 0 ((ss 0) + (it (shaR ww) ss 64 0))) 1 (((va_up ss 0 ((ss 0) + (it (shaR ww) ss 64 0))) 1) + (it (shaR ww) ss 64 1))) 2 (((va_up (va_up ss 0 ((ss 0) + (it (shaR ww) ss 64 0))) 1 (((va_up ss 0 ((ss 0) + (it (shaR ww) ss 64 0))) 1) + (it (shaR ww) ss 64 1))) 2) + (it (shaR ww) ss 64 2))) 3 (((va_up (va_up (va_up ss 0 ((ss 0) + (it (shaR ww) ss 64 0))) 1 (((va_up ss 0 ((ss 0) + (it (shaR ww) ss 64 0))) 1) + (it (shaR ww) ss 64 1))) 2 (((va_up (va_up ss 0 ((ss 0) + (it (shaR ww) ss 64 0))) 1 (((va_up ss 0 ((ss 0) + (it (shaR ww) ss 64 0))) 1) + (it (shaR ww) ss 64 1))) 2) + (it (shaR ww) ss 64 2))) 3) + (it (shaR ww) ss 64 3))) 4) + (it (shaR ww) ss 64 4))) 5 (((va_up (va_up (va_up (va_up (va_up ss 0 ((ss 0) + (it (shaR ww) ss 64 0))) 1 (((va_up ss 0 ((ss 0) + (it (shaR ww) ss 64 0))) 1) + (it (shaR ww) ss 64 1))) 2 (((va_up (va_up ss 0 ((ss 0) + (it (shaR ww) ss 64 0))) 1 (((va_up ss 0 ((ss 0) + (it (shaR ww) ss 64 0))) 1) + (it (shaR ww) ss 64 1))) 2) + (it (shaR ww) ss 64 2))) 3 (((va_up (va_up (va_up ss 0 ((ss 0) + (it (shaR ww) ss 64 0))) 1 (((va_up ss 0 ((ss 0) + (it (shaR ww) ss 64 0))) 1) + (it (shaR ww) ss 64 1))) 2 (((va_up (va_up ss 0 ((ss 0) + (it (shaR ww) ss 64 0))) 1 (((va_up ss 0 ((ss 0) + (it (shaR ww) ss 64 0))) 1) + (it (shaR ww) ss 64 1))) 2) + (it (shaR ww) ss 64 2))) 3) + (it (shaR ww) ss 64 3))) 4 (((va_up (va_up (va_up (va_up ss 0 ((ss 0) + (it (shaR ww) ss 64 0))) 1 (((va_up ss 0 ((ss 0) + (it (shaR ww) ss 64 0))) 1) + (it (shaR ww) ss 64 1))) 2 (((va_up (va_up ss 0 ((ss 0) + (it (shaR ww) ss 64 0))) 1 (((va_up ss 0 ((ss 0) + (it (shaR ww) ss 64 0))) 1) + (it (shaR ww) ss 64 1))) 2) + (it (shaR ww) ss 64 2))) 3 (((va_up (va_up (va_up ss 0 ((ss 0) + (it (shaR ww) ss 64 0))) 1 (((va_up ss 0 ((ss 0) + (it (shaR ww) ss 64 0))) 1) + (it (shaR ww) ss 64 1))) 2 (((va_up (va_up ss 0 ((ss 0) + (it (shaR ww) ss 64 0))) 1 (((va_up ss 0 ((ss 0) + (it (shaR ww) ss 64 0))) 1) + (it (shaR ww) ss 64 1))) 2) + (it (shaR ww) ss 64 2))) 3) + (it (shaR ww) ss 64 3))) 4) + (it (shaR ww) ss 64 4))) 5) + (it (shaR ww) ss 64 5))) 6) + (it (shaR ww) ss 64 6))) 7 (((va_up (va_up (va_up (va_up (va_up (va_up (va_up ss 0 ((ss 0) + (it (shaR ww) ss 64 0))) 1 (((va_up ss 0 ((ss 0) + (it (shaR ww) ss 64 0))) 1) + (it (shaR ww) ss 64 1))) 2 (((va_up (va_up ss 0 ((ss 0) + (it (shaR ww) ss 64 0))) 1 (((va_up ss 0 ((ss 0) + (it (shaR ww) ss 64 0))) 1) + (it (shaR ww) ss 64 1))) 2) + (it (shaR ww) ss 64 2))) 3 (((va_up (va_up (va_up ss 0 ((ss 0) + (it (shaR ww) ss 64 0))) 1 (((va_up ss 0 ((ss 0) + (it (shaR ww) ss 64 0))) 1) + (it (shaR ww) ss 64 1))) 2 (((va_up (va_up ss 0 ((ss 0) + (it (shaR ww) ss 64 0))) 1 (((va_up ss 0 ((ss 0) + (it (shaR ww) ss 64 0))) 1) + (it (shaR ww) ss 64 1))) 2) + (it (shaR ww) ss 64 2))) 3) + (it (shaR ww) ss 64 3))) 4 (((va_up (va_up (va_up (va_up ss 0 ((ss 0) + (it (shaR ww) ss 64 0))) 1 (((va_up ss 0 ((ss 0) + (it (shaR ww) ss 64 0))) 1) + (it (shaR ww) ss 64 1))) 2 (((va_up (va_up ss 0 ((ss 0) + (it (shaR ww) ss 64 0))) 1 (((va_up ss 0 ((ss 0) + (it (shaR ww) ss 64 0))) 1) + (it (shaR ww) ss 64 1))) 2) + (it (shaR ww) ss 64 2))) 3 (((va_up (va_up (va_up ss 0 ((ss 0) + (it (shaR ww) ss 64 0))) 1 (((va_up ss 0 ((ss 0) + (it (shaR ww) ss 64 0))) 1) + (it (shaR ww) ss 64 1))) 2 (((va_up (va_up ss 0 ((ss 0) + (it (shaR ww) ss 64 0))) 1 (((va_up ss 0 ((ss 0) + (it (shaR ww) ss 64 0))) 1) + (it (shaR ww) ss 64 1))) 2) + (it (shaR ww) ss 64 2))) 3) + (it (shaR ww) ss 64 3))) 4) + (it (shaR ww) ss 64 4))) 5 (((va_up (va_up (va_up (va_up (va_up ss 0 ((ss 0) + (it (shaR ww) ss 64 0))) 1 (((va_up ss 0 ((ss 0) + (it (shaR ww) ss 64 0))) 1) + (it (shaR ww) ss 64 1))) 2 (((va_up (va_up ss 0 ((ss 0) + (it (shaR ww) ss 64 0))) 1 (((va_up ss 0 ((ss 0) + (it (shaR ww) ss 64 0))) 1) + (it (shaR ww) ss 64 1))) 2) + (it (shaR ww) ss 64 2))) 3 (((va_up (va_up (va_up ss 0 ((ss 0) + (it (shaR ww) ss 64 0))) 1 (((va_up ss 0 ((ss 0) + (it (shaR ww) ss 64 0))) 1) + (it (shaR ww) ss 64 1))) 2 (((va_up (va_up ss 0 ((ss 0) + (it (shaR ww) ss 64 0))) 1 (((va_up ss 0 ((ss 0) + (it (shaR ww) ss 64 0))) 1) + (it (shaR ww) ss 64 1))) 2) + (it (shaR ww) ss 64 2))) 3) + (it (shaR ww) ss 64 3))) 4 (((va_up (va_up (va_up (va_up ss 0 ((ss 0) + (it (shaR ww) ss 64 0))) 1 (((va_up ss 0 ((ss 0) + (it (shaR ww) ss 64 0))) 1) + (it (shaR ww) ss 64 1))) 2 (((va_up (va_up ss 0 ((ss 0) + (it (shaR ww) ss 64 0))) 1 (((va_up ss 0 ((ss 0) + (it (shaR ww) ss 64 0))) 1) + (it (shaR ww) ss 64 1))) 2) + (it (shaR ww) ss 64 2))) 3 (((va_up (va_up (va_up ss 0 ((ss 0) + (it (shaR ww) ss 64 0))) 1 (((va_up ss 0 ((ss 0) + (it (shaR ww) ss 64 0))) 1) + (it (shaR ww) ss 64 1))) 2 (((va_up (va_up ss 0 ((ss 0) + (it (shaR ww) ss 64 0))) 1 (((va_up ss 0 ((ss 0) + (it (shaR ww) ss 64 0))) 1) + (it (shaR ww) ss 64 1))) 2) + (it (shaR ww) ss 64 2))) 3) + (it (shaR ww) ss 64 3))) 4) + (it (shaR ww) ss 64 4))) 5) + (it (shaR ww) ss 64 5))) 6 (((va_up (va_up (va_up (va_up (va_up (va_up ss 0 ((ss 0) + (it (shaR ww) ss 64 0))) 1 (((va_up ss 0 ((ss 0) + (it (shaR ww) ss 64 0))) 1) + (it (shaR ww) ss 64 1))) 2 (((va_up (va_up ss 0 ((ss 0) + (it (shaR ww) ss 64 0))) 1 (((va_up ss 0 ((ss 0) + (it (shaR ww) ss 64 0))) 1) + (it (shaR ww) ss 64 1))) 2) + (it (shaR ww) ss 64 2))) 3 (((va_up (va_up (va_up ss 0 ((ss 0) + (it (shaR ww) ss 64 0))) 1 (((va_up ss 0 ((ss 0) + (it (shaR ww) ss 64 0))) 1) + (it (shaR ww) ss 64 1))) 2 (((va_up (va_up ss 0 ((ss 0) + (it (shaR ww) ss 64 0))) 1 (((va_up ss 0 ((ss 0) + (it (shaR ww) ss 64 0))) 1) + (it (shaR ww) ss 64 1))) 2) + (it (shaR ww) ss 64 2))) 3) + (it (shaR ww) ss 64 3))) 4 (((va_up (va_up (va_up (va_up ss 0 ((ss 0) + (it (shaR ww) ss 64 0))) 1 (((va_up ss 0 ((ss 0) + (it (shaR ww) ss 64 0))) 1) + (it (shaR ww) ss 64 1))) 2 (((va_up (va_up ss 0 ((ss 0) + (it (shaR ww) ss 64 0))) 1 (((va_up ss 0 ((ss 0) + (it (shaR ww) ss 64 0))) 1) + (it (shaR ww) ss 64 1))) 2) + (it (shaR ww) ss 64 2))) 3 (((va_up (va_up (va_up ss 0 ((ss 0) + (it (shaR ww) ss 64 0))) 1 (((va_up ss 0 ((ss 0) + (it (shaR ww) ss 64 0))) 1) + (it (shaR ww) ss 64 1))) 2 (((va_up (va_up ss 0 ((ss 0) + (it (shaR ww) ss 64 0))) 1 (((va_up ss 0 ((ss 0) + (it (shaR ww) ss 64 0))) 1) + (it (shaR ww) ss 64 1))) 2) + (it (shaR ww) ss 64 2))) 3) + (it (shaR ww) ss 64 3))) 4) + (it (shaR ww) ss 64 4))) 5 (((va_up (va_up (va_up (va_up (va_up ss 0 ((ss 0) + (it (shaR ww) ss 64 0))) 1 (((va_up ss 0 ((ss 0) + (it (shaR ww) ss 64 0))) 1) + (it (shaR ww) ss 64 1))) 2 (((va_up (va_up ss 0 ((ss 0) + (it (shaR ww) ss 64 0))) 1 (((va_up ss 0 ((ss 0) + (it (shaR ww) ss 64 0))) 1) + (it (shaR ww) ss 64 1))) 2) + (it (shaR ww) ss 64 2))) 3 (((va_up (va_up (va_up ss 0 ((ss 0) + (it (shaR ww) ss 64 0))) 1 (((va_up ss 0 ((ss 0) + (it (shaR ww) ss 64 0))) 1) + (it (shaR ww) ss 64 1))) 2 (((va_up (va_up ss 0 ((ss 0) + (it (shaR ww) ss 64 0))) 1 (((va_up ss 0 ((ss 0) + (it (shaR ww) ss 64 0))) 1) + (it (shaR ww) ss 64 1))) 2) + (it (shaR ww) ss 64 2))) 3) + (it (shaR ww) ss 64 3))) 4 (((va_up (va_up (va_up (va_up ss 0 ((ss 0) + (it (shaR ww) ss 64 0))) 1 (((va_up ss 0 ((ss 0) + (it (shaR ww) ss 64 0))) 1) + (it (shaR ww) ss 64 1))) 2 (((va_up (va_up ss 0 ((ss 0) + (it (shaR ww) ss 64 0))) 1 (((va_up ss 0 ((ss 0) + (it (shaR ww) ss 64 0))) 1) + (it (shaR ww) ss 64 1))) 2) + (it (shaR ww) ss 64 2))) 3 (((va_up (va_up (va_up ss 0 ((ss 0) + (it (shaR ww) ss 64 0))) 1 (((va_up ss 0 ((ss 0) + (it (shaR ww) ss 64 0))) 1) + (it (shaR ww) ss 64 1))) 2 (((va_up (va_up ss 0 ((ss 0) + (it (shaR ww) ss 64 0))) 1 (((va_up ss 0 ((ss 0) + (it (shaR ww) ss 64 0))) 1) + (it (shaR ww) ss 64 1))) 2) + (it (shaR ww) ss 64 2))) 3) + (it (shaR ww) ss 64 3))) 4) + (it (shaR ww) ss 64 4))) 5) + (it (shaR ww) ss 64 5))) 6) + (it (shaR ww) ss 64 6))) 7) + (it (shaR ww) ss 64 7)))), (a 2, gI g 64 ww)]) C 1 rfl (by omega) (by decide) rfl dX0_mixBlock_295 ?_
      refine g_vret C dX0_mixBlock_296 (by decide) (by decide) ?_
      exact ⟨rfl, rfl⟩
    · skip
      exfalso; omega
  · intro j hlj huj hPj ihj
    try dsimp only at ihj ⊢
    refine g_iload C dX0_mixBlock_66 9 rfl ?_
    refine g_bipush (v := nI 64) C dX0_mixBlock_68 (by decide) ?_
    refine g_icmp_ge_n (tgt := 209) C dX0_mixBlock_70 (by decide) (by omega) (by omega) (fun c70 => ?_) (fun c70 => ?_)
    · skip
      exfalso; omega
    · skip
      refine g_iload C dX0_mixBlock_73 5 rfl ?_
      refine g_bipush (v := nI 6) C dX0_mixBlock_75 (by decide) ?_
      refine g_callS1 (wr := [(a 0, .inr (1, [.ref (a 1), .ref (a 2), .int (nI tk)])), (a 1, gI g 8 ss), (a 2, gI g 64 ww)]) (w2 := [(a 0, .inr (1, [.ref (a 1), .ref (a 2), .int (nI tk)])), (a 1, gI g 8 ss), (a 2, gI g 64 ww)]) C (c_J6_rotateRight_7cf53 l g (it (shaR ww) ss j 4) (nI 6)) (va_cwS 2 C.2.2.2.2.1 gX0_mixBlock_J6_rotateRight_7cf53 rfl rfl rfl (by decide +kernel) ⟨Nat.le_of_ble_eq_true rfl, Nat.le_of_ble_eq_true rfl⟩) [] [0, 1, 2] rfl rfl rfl rfl rfl (by decide) rfl rfl (Nat.le_of_ble_eq_true rfl) dX0_mixBlock_77 ⟨Nat.le_of_ble_eq_true rfl, Nat.le_of_ble_eq_true rfl⟩ rfl ?_
      refine g_iload C dX0_mixBlock_80 5 rfl ?_
      refine g_bipush (v := nI 11) C dX0_mixBlock_82 (by decide) ?_
      refine g_callS1 (wr := [(a 0, .inr (1, [.ref (a 1), .ref (a 2), .int (nI tk)])), (a 1, gI g 8 ss), (a 2, gI g 64 ww)]) (w2 := [(a 0, .inr (1, [.ref (a 1), .ref (a 2), .int (nI tk)])), (a 1, gI g 8 ss), (a 2, gI g 64 ww)]) C (c_J6_rotateRight_7cf53 l g (it (shaR ww) ss j 4) (nI 11)) (va_cwS 2 C.2.2.2.2.1 gX0_mixBlock_J6_rotateRight_7cf53 rfl rfl rfl (by decide +kernel) ⟨Nat.le_of_ble_eq_true rfl, Nat.le_of_ble_eq_true rfl⟩) [] [0, 1, 2] rfl rfl rfl rfl rfl (by decide) rfl rfl (Nat.le_of_ble_eq_true rfl) dX0_mixBlock_84 ⟨Nat.le_of_ble_eq_true rfl, Nat.le_of_ble_eq_true rfl⟩ rfl ?_
      refine g_ixor C dX0_mixBlock_87 ?_
      refine g_iload C dX0_mixBlock_88 5 rfl ?_
      refine g_bipush (v := nI 25) C dX0_mixBlock_90 (by decide) ?_
      refine g_callS1 (wr := [(a 0, .inr (1, [.ref (a 1), .ref (a 2), .int (nI tk)])), (a 1, gI g 8 ss), (a 2, gI g 64 ww)]) (w2 := [(a 0, .inr (1, [.ref (a 1), .ref (a 2), .int (nI tk)])), (a 1, gI g 8 ss), (a 2, gI g 64 ww)]) C (c_J6_rotateRight_7cf53 l g (it (shaR ww) ss j 4) (nI 25)) (va_cwS 2 C.2.2.2.2.1 gX0_mixBlock_J6_rotateRight_7cf53 rfl rfl rfl (by decide +kernel) ⟨Nat.le_of_ble_eq_true rfl, Nat.le_of_ble_eq_true rfl⟩) [] [0, 1, 2] rfl rfl rfl rfl rfl (by decide) rfl rfl (Nat.le_of_ble_eq_true rfl) dX0_mixBlock_92 ⟨Nat.le_of_ble_eq_true rfl, Nat.le_of_ble_eq_true rfl⟩ rfl ?_
      refine g_ixor C dX0_mixBlock_95 ?_
      refine g_istore (L' := [(10, .int (((rr (it (shaR ww) ss j 4) (nI 6)) ^^^ (rr (it (shaR ww) ss j 4) (nI 11))) ^^^ (rr (it (shaR ww) ss j 4) (nI 25)))), (0, .ref (a 0)), (1, .int (it (shaR ww) ss j 0)), (2, .int (it (shaR ww) ss j 1)), (3, .int (it (shaR ww) ss j 2)), (4, .int (it (shaR ww) ss j 3)), (5, .int (it (shaR ww) ss j 4)), (6, .int (it (shaR ww) ss j 5)), (7, .int (it (shaR ww) ss j 6)), (8, .int (it (shaR ww) ss j 7)), (9, .int (nI j))]) C dX0_mixBlock_96 (by decide) rfl ?_
      refine g_iload_n C dX0_mixBlock_98 rfl 2 rfl ?_
      refine g_iconst (v := nI 2) C dX0_mixBlock_99 (by decide) ?_
      refine g_callS1 (wr := [(a 0, .inr (1, [.ref (a 1), .ref (a 2), .int (nI tk)])), (a 1, gI g 8 ss), (a 2, gI g 64 ww)]) (w2 := [(a 0, .inr (1, [.ref (a 1), .ref (a 2), .int (nI tk)])), (a 1, gI g 8 ss), (a 2, gI g 64 ww)]) C (c_J6_rotateRight_7cf53 l g (it (shaR ww) ss j 0) (nI 2)) (va_cwS 2 C.2.2.2.2.1 gX0_mixBlock_J6_rotateRight_7cf53 rfl rfl rfl (by decide +kernel) ⟨Nat.le_of_ble_eq_true rfl, Nat.le_of_ble_eq_true rfl⟩) [] [0, 1, 2] rfl rfl rfl rfl rfl (by decide) rfl rfl (Nat.le_of_ble_eq_true rfl) dX0_mixBlock_100 ⟨Nat.le_of_ble_eq_true rfl, Nat.le_of_ble_eq_true rfl⟩ rfl ?_
      refine g_iload_n C dX0_mixBlock_103 rfl 2 rfl ?_
      refine g_bipush (v := nI 13) C dX0_mixBlock_104 (by decide) ?_
      refine g_callS1 (wr := [(a 0, .inr (1, [.ref (a 1), .ref (a 2), .int (nI tk)])), (a 1, gI g 8 ss), (a 2, gI g 64 ww)]) (w2 := [(a 0, .inr (1, [.ref (a 1), .ref (a 2), .int (nI tk)])), (a 1, gI g 8 ss), (a 2, gI g 64 ww)]) C (c_J6_rotateRight_7cf53 l g (it (shaR ww) ss j 0) (nI 13)) (va_cwS 2 C.2.2.2.2.1 gX0_mixBlock_J6_rotateRight_7cf53 rfl rfl rfl (by decide +kernel) ⟨Nat.le_of_ble_eq_true rfl, Nat.le_of_ble_eq_true rfl⟩) [] [0, 1, 2] rfl rfl rfl rfl rfl (by decide) rfl rfl (Nat.le_of_ble_eq_true rfl) dX0_mixBlock_106 ⟨Nat.le_of_ble_eq_true rfl, Nat.le_of_ble_eq_true rfl⟩ rfl ?_
      refine g_ixor C dX0_mixBlock_109 ?_
      refine g_iload_n C dX0_mixBlock_110 rfl 2 rfl ?_
      refine g_bipush (v := nI 22) C dX0_mixBlock_111 (by decide) ?_
      refine g_callS1 (wr := [(a 0, .inr (1, [.ref (a 1), .ref (a 2), .int (nI tk)])), (a 1, gI g 8 ss), (a 2, gI g 64 ww)]) (w2 := [(a 0, .inr (1, [.ref (a 1), .ref (a 2), .int (nI tk)])), (a 1, gI g 8 ss), (a 2, gI g 64 ww)]) C (c_J6_rotateRight_7cf53 l g (it (shaR ww) ss j 0) (nI 22)) (va_cwS 2 C.2.2.2.2.1 gX0_mixBlock_J6_rotateRight_7cf53 rfl rfl rfl (by decide +kernel) ⟨Nat.le_of_ble_eq_true rfl, Nat.le_of_ble_eq_true rfl⟩) [] [0, 1, 2] rfl rfl rfl rfl rfl (by decide) rfl rfl (Nat.le_of_ble_eq_true rfl) dX0_mixBlock_113 ⟨Nat.le_of_ble_eq_true rfl, Nat.le_of_ble_eq_true rfl⟩ rfl ?_
      refine g_ixor C dX0_mixBlock_116 ?_
      refine g_istore (L' := [(11, .int (((rr (it (shaR ww) ss j 0) (nI 2)) ^^^ (rr (it (shaR ww) ss j 0) (nI 13))) ^^^ (rr (it (shaR ww) ss j 0) (nI 22)))), (10, .int (((rr (it (shaR ww) ss j 4) (nI 6)) ^^^ (rr (it (shaR ww) ss j 4) (nI 11))) ^^^ (rr (it (shaR ww) ss j 4) (nI 25)))), (0, .ref (a 0)), (1, .int (it (shaR ww) ss j 0)), (2, .int (it (shaR ww) ss j 1)), (3, .int (it (shaR ww) ss j 2)), (4, .int (it (shaR ww) ss j 3)), (5, .int (it (shaR ww) ss j 4)), (6, .int (it (shaR ww) ss j 5)), (7, .int (it (shaR ww) ss j 6)), (8, .int (it (shaR ww) ss j 7)), (9, .int (nI j))]) C dX0_mixBlock_117 (by decide) rfl ?_
      refine g_iload C dX0_mixBlock_119 10 rfl ?_
      refine g_iload C dX0_mixBlock_121 1 rfl ?_
      refine g_iadd C dX0_mixBlock_123 ?_
      refine g_iload C dX0_mixBlock_124 7 rfl ?_
      refine g_iload C dX0_mixBlock_126 8 rfl ?_
      refine g_iand C dX0_mixBlock_128 ?_
      refine g_iload C dX0_mixBlock_129 7 rfl ?_
      refine g_iconst (v := (-1)) C dX0_mixBlock_131 (by decide) ?_
      refine g_ixor C dX0_mixBlock_132 ?_
      refine g_iload C dX0_mixBlock_133 9 rfl ?_
      refine g_iand C dX0_mixBlock_135 ?_
      refine g_ixor C dX0_mixBlock_136 ?_
      refine g_iadd C dX0_mixBlock_137 ?_
      refine g_round C (by decide +kernel) dX0_mixBlock_138 ?_
      refine g_iload C dX0_mixBlock_141 11 rfl ?_
      refine g_roundAt C (by omega) dX0_mixBlock_143 ?_
      refine g_iadd C dX0_mixBlock_144 ?_
      refine g_aload_n C dX0_mixBlock_145 rfl 2 rfl ?_
      refine g_get C hinX0 0 rfl rfl 1 (by decide) (by decide +kernel) rfl rfl dX0_mixBlock_146 ?_
      refine g_iload C dX0_mixBlock_149 11 rfl ?_
      refine g_iald C 2 rfl (by omega) (by decide) dX0_mixBlock_151 ?_
      refine g_iadd C dX0_mixBlock_152 ?_
      refine g_istore (L' := [(12, .int (((((it (shaR ww) ss j 7) + (((rr (it (shaR ww) ss j 4) (nI 6)) ^^^ (rr (it (shaR ww) ss j 4) (nI 11))) ^^^ (rr (it (shaR ww) ss j 4) (nI 25)))) + (((it (shaR ww) ss j 4) &&& (it (shaR ww) ss j 5)) ^^^ (((it (shaR ww) ss j 4) ^^^ (-1)) &&& (it (shaR ww) ss j 6)))) + (sha_K j)) + (ww j))), (11, .int (((rr (it (shaR ww) ss j 0) (nI 2)) ^^^ (rr (it (shaR ww) ss j 0) (nI 13))) ^^^ (rr (it (shaR ww) ss j 0) (nI 22)))), (10, .int (((rr (it (shaR ww) ss j 4) (nI 6)) ^^^ (rr (it (shaR ww) ss j 4) (nI 11))) ^^^ (rr (it (shaR ww) ss j 4) (nI 25)))), (0, .ref (a 0)), (1, .int (it (shaR ww) ss j 0)), (2, .int (it (shaR ww) ss j 1)), (3, .int (it (shaR ww) ss j 2)), (4, .int (it (shaR ww) ss j 3)), (5, .int (it (shaR ww) ss j 4)), (6, .int (it (shaR ww) ss j 5)), (7, .int (it (shaR ww) ss j 6)), (8, .int (it (shaR ww) ss j 7)), (9, .int (nI j))]) C dX0_mixBlock_153 (by decide) rfl ?_
      refine g_iload C dX0_mixBlock_155 1 rfl ?_
      refine g_iload_n C dX0_mixBlock_157 rfl 4 rfl ?_
      refine g_iload_n C dX0_mixBlock_158 rfl 5 rfl ?_
      refine g_iand C dX0_mixBlock_159 ?_
      refine g_iload_n C dX0_mixBlock_160 rfl 4 rfl ?_
      refine g_iload_n C dX0_mixBlock_161 rfl 6 rfl ?_
      refine g_iand C dX0_mixBlock_162 ?_
      refine g_ixor C dX0_mixBlock_163 ?_
      refine g_iload_n C dX0_mixBlock_164 rfl 5 rfl ?_
      refine g_iload_n C dX0_mixBlock_165 rfl 6 rfl ?_
      refine g_iand C dX0_mixBlock_166 ?_
      refine g_ixor C dX0_mixBlock_167 ?_
      refine g_iadd C dX0_mixBlock_168 ?_
      refine g_istore (L' := [(13, .int ((((rr (it (shaR ww) ss j 0) (nI 2)) ^^^ (rr (it (shaR ww) ss j 0) (nI 13))) ^^^ (rr (it (shaR ww) ss j 0) (nI 22))) + ((((it (shaR ww) ss j 0) &&& (it (shaR ww) ss j 1)) ^^^ ((it (shaR ww) ss j 0) &&& (it (shaR ww) ss j 2))) ^^^ ((it (shaR ww) ss j 1) &&& (it (shaR ww) ss j 2))))), (12, .int (((((it (shaR ww) ss j 7) + (((rr (it (shaR ww) ss j 4) (nI 6)) ^^^ (rr (it (shaR ww) ss j 4) (nI 11))) ^^^ (rr (it (shaR ww) ss j 4) (nI 25)))) + (((it (shaR ww) ss j 4) &&& (it (shaR ww) ss j 5)) ^^^ (((it (shaR ww) ss j 4) ^^^ (-1)) &&& (it (shaR ww) ss j 6)))) + (sha_K j)) + (ww j))), (11, .int (((rr (it (shaR ww) ss j 0) (nI 2)) ^^^ (rr (it (shaR ww) ss j 0) (nI 13))) ^^^ (rr (it (shaR ww) ss j 0) (nI 22)))), (10, .int (((rr (it (shaR ww) ss j 4) (nI 6)) ^^^ (rr (it (shaR ww) ss j 4) (nI 11))) ^^^ (rr (it (shaR ww) ss j 4) (nI 25)))), (0, .ref (a 0)), (1, .int (it (shaR ww) ss j 0)), (2, .int (it (shaR ww) ss j 1)), (3, .int (it (shaR ww) ss j 2)), (4, .int (it (shaR ww) ss j 3)), (5, .int (it (shaR ww) ss j 4)), (6, .int (it (shaR ww) ss j 5)), (7, .int (it (shaR ww) ss j 6)), (8, .int (it (shaR ww) ss j 7)), (9, .int (nI j))]) C dX0_mixBlock_169 (by decide) rfl ?_
      refine g_iload C dX0_mixBlock_171 11 rfl ?_
      refine g_istore (L' := [(8, .int (it (shaR ww) ss j 6)), (13, .int ((((rr (it (shaR ww) ss j 0) (nI 2)) ^^^ (rr (it (shaR ww) ss j 0) (nI 13))) ^^^ (rr (it (shaR ww) ss j 0) (nI 22))) + ((((it (shaR ww) ss j 0) &&& (it (shaR ww) ss j 1)) ^^^ ((it (shaR ww) ss j 0) &&& (it (shaR ww) ss j 2))) ^^^ ((it (shaR ww) ss j 1) &&& (it (shaR ww) ss j 2))))), (12, .int (((((it (shaR ww) ss j 7) + (((rr (it (shaR ww) ss j 4) (nI 6)) ^^^ (rr (it (shaR ww) ss j 4) (nI 11))) ^^^ (rr (it (shaR ww) ss j 4) (nI 25)))) + (((it (shaR ww) ss j 4) &&& (it (shaR ww) ss j 5)) ^^^ (((it (shaR ww) ss j 4) ^^^ (-1)) &&& (it (shaR ww) ss j 6)))) + (sha_K j)) + (ww j))), (11, .int (((rr (it (shaR ww) ss j 0) (nI 2)) ^^^ (rr (it (shaR ww) ss j 0) (nI 13))) ^^^ (rr (it (shaR ww) ss j 0) (nI 22)))), (10, .int (((rr (it (shaR ww) ss j 4) (nI 6)) ^^^ (rr (it (shaR ww) ss j 4) (nI 11))) ^^^ (rr (it (shaR ww) ss j 4) (nI 25)))), (0, .ref (a 0)), (1, .int (it (shaR ww) ss j 0)), (2, .int (it (shaR ww) ss j 1)), (3, .int (it (shaR ww) ss j 2)), (4, .int (it (shaR ww) ss j 3)), (5, .int (it (shaR ww) ss j 4)), (6, .int (it (shaR ww) ss j 5)), (7, .int (it (shaR ww) ss j 6)), (9, .int (nI j))]) C dX0_mixBlock_173 (by decide) rfl ?_
      refine g_iload C dX0_mixBlock_175 11 rfl ?_
      refine g_istore (L' := [(7, .int (it (shaR ww) ss j 5)), (8, .int (it (shaR ww) ss j 6)), (13, .int ((((rr (it (shaR ww) ss j 0) (nI 2)) ^^^ (rr (it (shaR ww) ss j 0) (nI 13))) ^^^ (rr (it (shaR ww) ss j 0) (nI 22))) + ((((it (shaR ww) ss j 0) &&& (it (shaR ww) ss j 1)) ^^^ ((it (shaR ww) ss j 0) &&& (it (shaR ww) ss j 2))) ^^^ ((it (shaR ww) ss j 1) &&& (it (shaR ww) ss j 2))))), (12, .int (((((it (shaR ww) ss j 7) + (((rr (it (shaR ww) ss j 4) (nI 6)) ^^^ (rr (it (shaR ww) ss j 4) (nI 11))) ^^^ (rr (it (shaR ww) ss j 4) (nI 25)))) + (((it (shaR ww) ss j 4) &&& (it (shaR ww) ss j 5)) ^^^ (((it (shaR ww) ss j 4) ^^^ (-1)) &&& (it (shaR ww) ss j 6)))) + (sha_K j)) + (ww j))), (11, .int (((rr (it (shaR ww) ss j 0) (nI 2)) ^^^ (rr (it (shaR ww) ss j 0) (nI 13))) ^^^ (rr (it (shaR ww) ss j 0) (nI 22)))), (10, .int (((rr (it (shaR ww) ss j 4) (nI 6)) ^^^ (rr (it (shaR ww) ss j 4) (nI 11))) ^^^ (rr (it (shaR ww) ss j 4) (nI 25)))), (0, .ref (a 0)), (1, .int (it (shaR ww) ss j 0)), (2, .int (it (shaR ww) ss j 1)), (3, .int (it (shaR ww) ss j 2)), (4, .int (it (shaR ww) ss j 3)), (5, .int (it (shaR ww) ss j 4)), (6, .int (it (shaR ww) ss j 5)), (9, .int (nI j))]) C dX0_mixBlock_177 (by decide) rfl ?_
      refine g_iload C dX0_mixBlock_179 11 rfl ?_
      refine g_istore (L' := [(6, .int (it (shaR ww) ss j 4)), (7, .int (it (shaR ww) ss j 5)), (8, .int (it (shaR ww) ss j 6)), (13, .int ((((rr (it (shaR ww) ss j 0) (nI 2)) ^^^ (rr (it (shaR ww) ss j 0) (nI 13))) ^^^ (rr (it (shaR ww) ss j 0) (nI 22))) + ((((it (shaR ww) ss j 0) &&& (it (shaR ww) ss j 1)) ^^^ ((it (shaR ww) ss j 0) &&& (it (shaR ww) ss j 2))) ^^^ ((it (shaR ww) ss j 1) &&& (it (shaR ww) ss j 2))))), (12, .int (((((it (shaR ww) ss j 7) + (((rr (it (shaR ww) ss j 4) (nI 6)) ^^^ (rr (it (shaR ww) ss j 4) (nI 11))) ^^^ (rr (it (shaR ww) ss j 4) (nI 25)))) + (((it (shaR ww) ss j 4) &&& (it (shaR ww) ss j 5)) ^^^ (((it (shaR ww) ss j 4) ^^^ (-1)) &&& (it (shaR ww) ss j 6)))) + (sha_K j)) + (ww j))), (11, .int (((rr (it (shaR ww) ss j 0) (nI 2)) ^^^ (rr (it (shaR ww) ss j 0) (nI 13))) ^^^ (rr (it (shaR ww) ss j 0) (nI 22)))), (10, .int (((rr (it (shaR ww) ss j 4) (nI 6)) ^^^ (rr (it (shaR ww) ss j 4) (nI 11))) ^^^ (rr (it (shaR ww) ss j 4) (nI 25)))), (0, .ref (a 0)), (1, .int (it (shaR ww) ss j 0)), (2, .int (it (shaR ww) ss j 1)), (3, .int (it (shaR ww) ss j 2)), (4, .int (it (shaR ww) ss j 3)), (5, .int (it (shaR ww) ss j 4)), (9, .int (nI j))]) C dX0_mixBlock_181 (by decide) rfl ?_
      refine g_iload C dX0_mixBlock_183 11 rfl ?_
      refine g_iload C dX0_mixBlock_185 4 rfl ?_
      refine g_iadd C dX0_mixBlock_187 ?_
      refine g_istore (L' := [(5, .int ((it (shaR ww) ss j 3) + (((((it (shaR ww) ss j 7) + (((rr (it (shaR ww) ss j 4) (nI 6)) ^^^ (rr (it (shaR ww) ss j 4) (nI 11))) ^^^ (rr (it (shaR ww) ss j 4) (nI 25)))) + (((it (shaR ww) ss j 4) &&& (it (shaR ww) ss j 5)) ^^^ (((it (shaR ww) ss j 4) ^^^ (-1)) &&& (it (shaR ww) ss j 6)))) + (sha_K j)) + (ww j)))), (6, .int (it (shaR ww) ss j 4)), (7, .int (it (shaR ww) ss j 5)), (8, .int (it (shaR ww) ss j 6)), (13, .int ((((rr (it (shaR ww) ss j 0) (nI 2)) ^^^ (rr (it (shaR ww) ss j 0) (nI 13))) ^^^ (rr (it (shaR ww) ss j 0) (nI 22))) + ((((it (shaR ww) ss j 0) &&& (it (shaR ww) ss j 1)) ^^^ ((it (shaR ww) ss j 0) &&& (it (shaR ww) ss j 2))) ^^^ ((it (shaR ww) ss j 1) &&& (it (shaR ww) ss j 2))))), (12, .int (((((it (shaR ww) ss j 7) + (((rr (it (shaR ww) ss j 4) (nI 6)) ^^^ (rr (it (shaR ww) ss j 4) (nI 11))) ^^^ (rr (it (shaR ww) ss j 4) (nI 25)))) + (((it (shaR ww) ss j 4) &&& (it (shaR ww) ss j 5)) ^^^ (((it (shaR ww) ss j 4) ^^^ (-1)) &&& (it (shaR ww) ss j 6)))) + (sha_K j)) + (ww j))), (11, .int (((rr (it (shaR ww) ss j 0) (nI 2)) ^^^ (rr (it (shaR ww) ss j 0) (nI 13))) ^^^ (rr (it (shaR ww) ss j 0) (nI 22)))), (10, .int (((rr (it (shaR ww) ss j 4) (nI 6)) ^^^ (rr (it (shaR ww) ss j 4) (nI 11))) ^^^ (rr (it (shaR ww) ss j 4) (nI 25)))), (0, .ref (a 0)), (1, .int (it (shaR ww) ss j 0)), (2, .int (it (shaR ww) ss j 1)), (3, .int (it (shaR ww) ss j 2)), (4, .int (it (shaR ww) ss j 3)), (9, .int (nI j))]) C dX0_mixBlock_188 (by decide) rfl ?_
      refine g_iload_n C dX0_mixBlock_190 rfl 11 rfl ?_
      refine g_istore (L' := [(4, .int (it (shaR ww) ss j 2)), (5, .int ((it (shaR ww) ss j 3) + (((((it (shaR ww) ss j 7) + (((rr (it (shaR ww) ss j 4) (nI 6)) ^^^ (rr (it (shaR ww) ss j 4) (nI 11))) ^^^ (rr (it (shaR ww) ss j 4) (nI 25)))) + (((it (shaR ww) ss j 4) &&& (it (shaR ww) ss j 5)) ^^^ (((it (shaR ww) ss j 4) ^^^ (-1)) &&& (it (shaR ww) ss j 6)))) + (sha_K j)) + (ww j)))), (6, .int (it (shaR ww) ss j 4)), (7, .int (it (shaR ww) ss j 5)), (8, .int (it (shaR ww) ss j 6)), (13, .int ((((rr (it (shaR ww) ss j 0) (nI 2)) ^^^ (rr (it (shaR ww) ss j 0) (nI 13))) ^^^ (rr (it (shaR ww) ss j 0) (nI 22))) + ((((it (shaR ww) ss j 0) &&& (it (shaR ww) ss j 1)) ^^^ ((it (shaR ww) ss j 0) &&& (it (shaR ww) ss j 2))) ^^^ ((it (shaR ww) ss j 1) &&& (it (shaR ww) ss j 2))))), (12, .int (((((it (shaR ww) ss j 7) + (((rr (it (shaR ww) ss j 4) (nI 6)) ^^^ (rr (it (shaR ww) ss j 4) (nI 11))) ^^^ (rr (it (shaR ww) ss j 4) (nI 25)))) + (((it (shaR ww) ss j 4) &&& (it (shaR ww) ss j 5)) ^^^ (((it (shaR ww) ss j 4) ^^^ (-1)) &&& (it (shaR ww) ss j 6)))) + (sha_K j)) + (ww j))), (11, .int (((rr (it (shaR ww) ss j 0) (nI 2)) ^^^ (rr (it (shaR ww) ss j 0) (nI 13))) ^^^ (rr (it (shaR ww) ss j 0) (nI 22)))), (10, .int (((rr (it (shaR ww) ss j 4) (nI 6)) ^^^ (rr (it (shaR ww) ss j 4) (nI 11))) ^^^ (rr (it (shaR ww) ss j 4) (nI 25)))), (0, .ref (a 0)), (1, .int (it (shaR ww) ss j 0)), (2, .int (it (shaR ww) ss j 1)), (3, .int (it (shaR ww) ss j 2)), (9, .int (nI j))]) C dX0_mixBlock_191 (by decide) rfl ?_
      refine g_iload_n C dX0_mixBlock_193 rfl 11 rfl ?_
      refine g_istore_n (L' := [(3, .int (it (shaR ww) ss j 1)), (4, .int (it (shaR ww) ss j 2)), (5, .int ((it (shaR ww) ss j 3) + (((((it (shaR ww) ss j 7) + (((rr (it (shaR ww) ss j 4) (nI 6)) ^^^ (rr (it (shaR ww) ss j 4) (nI 11))) ^^^ (rr (it (shaR ww) ss j 4) (nI 25)))) + (((it (shaR ww) ss j 4) &&& (it (shaR ww) ss j 5)) ^^^ (((it (shaR ww) ss j 4) ^^^ (-1)) &&& (it (shaR ww) ss j 6)))) + (sha_K j)) + (ww j)))), (6, .int (it (shaR ww) ss j 4)), (7, .int (it (shaR ww) ss j 5)), (8, .int (it (shaR ww) ss j 6)), (13, .int ((((rr (it (shaR ww) ss j 0) (nI 2)) ^^^ (rr (it (shaR ww) ss j 0) (nI 13))) ^^^ (rr (it (shaR ww) ss j 0) (nI 22))) + ((((it (shaR ww) ss j 0) &&& (it (shaR ww) ss j 1)) ^^^ ((it (shaR ww) ss j 0) &&& (it (shaR ww) ss j 2))) ^^^ ((it (shaR ww) ss j 1) &&& (it (shaR ww) ss j 2))))), (12, .int (((((it (shaR ww) ss j 7) + (((rr (it (shaR ww) ss j 4) (nI 6)) ^^^ (rr (it (shaR ww) ss j 4) (nI 11))) ^^^ (rr (it (shaR ww) ss j 4) (nI 25)))) + (((it (shaR ww) ss j 4) &&& (it (shaR ww) ss j 5)) ^^^ (((it (shaR ww) ss j 4) ^^^ (-1)) &&& (it (shaR ww) ss j 6)))) + (sha_K j)) + (ww j))), (11, .int (((rr (it (shaR ww) ss j 0) (nI 2)) ^^^ (rr (it (shaR ww) ss j 0) (nI 13))) ^^^ (rr (it (shaR ww) ss j 0) (nI 22)))), (10, .int (((rr (it (shaR ww) ss j 4) (nI 6)) ^^^ (rr (it (shaR ww) ss j 4) (nI 11))) ^^^ (rr (it (shaR ww) ss j 4) (nI 25)))), (0, .ref (a 0)), (1, .int (it (shaR ww) ss j 0)), (2, .int (it (shaR ww) ss j 1)), (9, .int (nI j))]) C dX0_mixBlock_194 rfl (by decide) rfl ?_
      refine g_iload_n C dX0_mixBlock_195 rfl 11 rfl ?_
      refine g_istore_n (L' := [(2, .int (it (shaR ww) ss j 0)), (3, .int (it (shaR ww) ss j 1)), (4, .int (it (shaR ww) ss j 2)), (5, .int ((it (shaR ww) ss j 3) + (((((it (shaR ww) ss j 7) + (((rr (it (shaR ww) ss j 4) (nI 6)) ^^^ (rr (it (shaR ww) ss j 4) (nI 11))) ^^^ (rr (it (shaR ww) ss j 4) (nI 25)))) + (((it (shaR ww) ss j 4) &&& (it (shaR ww) ss j 5)) ^^^ (((it (shaR ww) ss j 4) ^^^ (-1)) &&& (it (shaR ww) ss j 6)))) + (sha_K j)) + (ww j)))), (6, .int (it (shaR ww) ss j 4)), (7, .int (it (shaR ww) ss j 5)), (8, .int (it (shaR ww) ss j 6)), (13, .int ((((rr (it (shaR ww) ss j 0) (nI 2)) ^^^ (rr (it (shaR ww) ss j 0) (nI 13))) ^^^ (rr (it (shaR ww) ss j 0) (nI 22))) + ((((it (shaR ww) ss j 0) &&& (it (shaR ww) ss j 1)) ^^^ ((it (shaR ww) ss j 0) &&& (it (shaR ww) ss j 2))) ^^^ ((it (shaR ww) ss j 1) &&& (it (shaR ww) ss j 2))))), (12, .int (((((it (shaR ww) ss j 7) + (((rr (it (shaR ww) ss j 4) (nI 6)) ^^^ (rr (it (shaR ww) ss j 4) (nI 11))) ^^^ (rr (it (shaR ww) ss j 4) (nI 25)))) + (((it (shaR ww) ss j 4) &&& (it (shaR ww) ss j 5)) ^^^ (((it (shaR ww) ss j 4) ^^^ (-1)) &&& (it (shaR ww) ss j 6)))) + (sha_K j)) + (ww j))), (11, .int (((rr (it (shaR ww) ss j 0) (nI 2)) ^^^ (rr (it (shaR ww) ss j 0) (nI 13))) ^^^ (rr (it (shaR ww) ss j 0) (nI 22)))), (10, .int (((rr (it (shaR ww) ss j 4) (nI 6)) ^^^ (rr (it (shaR ww) ss j 4) (nI 11))) ^^^ (rr (it (shaR ww) ss j 4) (nI 25)))), (0, .ref (a 0)), (1, .int (it (shaR ww) ss j 0)), (9, .int (nI j))]) C dX0_mixBlock_196 rfl (by decide) rfl ?_
      refine g_iload C dX0_mixBlock_197 8 rfl ?_
      refine g_iload C dX0_mixBlock_199 7 rfl ?_
      refine g_iadd C dX0_mixBlock_201 ?_
      refine g_istore_n (L' := [(1, .int ((((((it (shaR ww) ss j 7) + (((rr (it (shaR ww) ss j 4) (nI 6)) ^^^ (rr (it (shaR ww) ss j 4) (nI 11))) ^^^ (rr (it (shaR ww) ss j 4) (nI 25)))) + (((it (shaR ww) ss j 4) &&& (it (shaR ww) ss j 5)) ^^^ (((it (shaR ww) ss j 4) ^^^ (-1)) &&& (it (shaR ww) ss j 6)))) + (sha_K j)) + (ww j)) + ((((rr (it (shaR ww) ss j 0) (nI 2)) ^^^ (rr (it (shaR ww) ss j 0) (nI 13))) ^^^ (rr (it (shaR ww) ss j 0) (nI 22))) + ((((it (shaR ww) ss j 0) &&& (it (shaR ww) ss j 1)) ^^^ ((it (shaR ww) ss j 0) &&& (it (shaR ww) ss j 2))) ^^^ ((it (shaR ww) ss j 1) &&& (it (shaR ww) ss j 2)))))), (2, .int (it (shaR ww) ss j 0)), (3, .int (it (shaR ww) ss j 1)), (4, .int (it (shaR ww) ss j 2)), (5, .int ((it (shaR ww) ss j 3) + (((((it (shaR ww) ss j 7) + (((rr (it (shaR ww) ss j 4) (nI 6)) ^^^ (rr (it (shaR ww) ss j 4) (nI 11))) ^^^ (rr (it (shaR ww) ss j 4) (nI 25)))) + (((it (shaR ww) ss j 4) &&& (it (shaR ww) ss j 5)) ^^^ (((it (shaR ww) ss j 4) ^^^ (-1)) &&& (it (shaR ww) ss j 6)))) + (sha_K j)) + (ww j)))), (6, .int (it (shaR ww) ss j 4)), (7, .int (it (shaR ww) ss j 5)), (8, .int (it (shaR ww) ss j 6)), (13, .int ((((rr (it (shaR ww) ss j 0) (nI 2)) ^^^ (rr (it (shaR ww) ss j 0) (nI 13))) ^^^ (rr (it (shaR ww) ss j 0) (nI 22))) + ((((it (shaR ww) ss j 0) &&& (it (shaR ww) ss j 1)) ^^^ ((it (shaR ww) ss j 0) &&& (it (shaR ww) ss j 2))) ^^^ ((it (shaR ww) ss j 1) &&& (it (shaR ww) ss j 2))))), (12, .int (((((it (shaR ww) ss j 7) + (((rr (it (shaR ww) ss j 4) (nI 6)) ^^^ (rr (it (shaR ww) ss j 4) (nI 11))) ^^^ (rr (it (shaR ww) ss j 4) (nI 25)))) + (((it (shaR ww) ss j 4) &&& (it (shaR ww) ss j 5)) ^^^ (((it (shaR ww) ss j 4) ^^^ (-1)) &&& (it (shaR ww) ss j 6)))) + (sha_K j)) + (ww j))), (11, .int (((rr (it (shaR ww) ss j 0) (nI 2)) ^^^ (rr (it (shaR ww) ss j 0) (nI 13))) ^^^ (rr (it (shaR ww) ss j 0) (nI 22)))), (10, .int (((rr (it (shaR ww) ss j 4) (nI 6)) ^^^ (rr (it (shaR ww) ss j 4) (nI 11))) ^^^ (rr (it (shaR ww) ss j 4) (nI 25)))), (0, .ref (a 0)), (9, .int (nI j))]) C dX0_mixBlock_202 rfl (by decide) rfl ?_
      refine g_iinc_n (d := 1) (L' := [(9, .int (nI (j + 1))), (1, .int ((((((it (shaR ww) ss j 7) + (((rr (it (shaR ww) ss j 4) (nI 6)) ^^^ (rr (it (shaR ww) ss j 4) (nI 11))) ^^^ (rr (it (shaR ww) ss j 4) (nI 25)))) + (((it (shaR ww) ss j 4) &&& (it (shaR ww) ss j 5)) ^^^ (((it (shaR ww) ss j 4) ^^^ (-1)) &&& (it (shaR ww) ss j 6)))) + (sha_K j)) + (ww j)) + ((((rr (it (shaR ww) ss j 0) (nI 2)) ^^^ (rr (it (shaR ww) ss j 0) (nI 13))) ^^^ (rr (it (shaR ww) ss j 0) (nI 22))) + ((((it (shaR ww) ss j 0) &&& (it (shaR ww) ss j 1)) ^^^ ((it (shaR ww) ss j 0) &&& (it (shaR ww) ss j 2))) ^^^ ((it (shaR ww) ss j 1) &&& (it (shaR ww) ss j 2)))))), (2, .int (it (shaR ww) ss j 0)), (3, .int (it (shaR ww) ss j 1)), (4, .int (it (shaR ww) ss j 2)), (5, .int ((it (shaR ww) ss j 3) + (((((it (shaR ww) ss j 7) + (((rr (it (shaR ww) ss j 4) (nI 6)) ^^^ (rr (it (shaR ww) ss j 4) (nI 11))) ^^^ (rr (it (shaR ww) ss j 4) (nI 25)))) + (((it (shaR ww) ss j 4) &&& (it (shaR ww) ss j 5)) ^^^ (((it (shaR ww) ss j 4) ^^^ (-1)) &&& (it (shaR ww) ss j 6)))) + (sha_K j)) + (ww j)))), (6, .int (it (shaR ww) ss j 4)), (7, .int (it (shaR ww) ss j 5)), (8, .int (it (shaR ww) ss j 6)), (13, .int ((((rr (it (shaR ww) ss j 0) (nI 2)) ^^^ (rr (it (shaR ww) ss j 0) (nI 13))) ^^^ (rr (it (shaR ww) ss j 0) (nI 22))) + ((((it (shaR ww) ss j 0) &&& (it (shaR ww) ss j 1)) ^^^ ((it (shaR ww) ss j 0) &&& (it (shaR ww) ss j 2))) ^^^ ((it (shaR ww) ss j 1) &&& (it (shaR ww) ss j 2))))), (12, .int (((((it (shaR ww) ss j 7) + (((rr (it (shaR ww) ss j 4) (nI 6)) ^^^ (rr (it (shaR ww) ss j 4) (nI 11))) ^^^ (rr (it (shaR ww) ss j 4) (nI 25)))) + (((it (shaR ww) ss j 4) &&& (it (shaR ww) ss j 5)) ^^^ (((it (shaR ww) ss j 4) ^^^ (-1)) &&& (it (shaR ww) ss j 6)))) + (sha_K j)) + (ww j))), (11, .int (((rr (it (shaR ww) ss j 0) (nI 2)) ^^^ (rr (it (shaR ww) ss j 0) (nI 13))) ^^^ (rr (it (shaR ww) ss j 0) (nI 22)))), (10, .int (((rr (it (shaR ww) ss j 4) (nI 6)) ^^^ (rr (it (shaR ww) ss j 4) (nI 11))) ^^^ (rr (it (shaR ww) ss j 4) (nI 25)))), (0, .ref (a 0))]) C dX0_mixBlock_203 13 rfl (by decide) (by decide) rfl ?_
      refine g_goto (tgt := 66) C dX0_mixBlock_206 (by decide) ?_
      refine g_L (L2 := [(0, .ref (a 0)), (1, .int ((((((it (shaR ww) ss j 7) + (((rr (it (shaR ww) ss j 4) (nI 6)) ^^^ (rr (it (shaR ww) ss j 4) (nI 11))) ^^^ (rr (it (shaR ww) ss j 4) (nI 25)))) + (((it (shaR ww) ss j 4) &&& (it (shaR ww) ss j 5)) ^^^ (((it (shaR ww) ss j 4) ^^^ (-1)) &&& (it (shaR ww) ss j 6)))) + (sha_K j)) + (ww j)) + ((((rr (it (shaR ww) ss j 0) (nI 2)) ^^^ (rr (it (shaR ww) ss j 0) (nI 13))) ^^^ (rr (it (shaR ww) ss j 0) (nI 22))) + ((((it (shaR ww) ss j 0) &&& (it (shaR ww) ss j 1)) ^^^ ((it (shaR ww) ss j 0) &&& (it (shaR ww) ss j 2))) ^^^ ((it (shaR ww) ss j 1) &&& (it (shaR ww) ss j 2)))))), (2, .int (it (shaR ww) ss j 0)), (3, .int (it (shaR ww) ss j 1)), (4, .int (it (shaR ww) ss j 2)), (5, .int ((it (shaR ww) ss j 3) + (((((it (shaR ww) ss j 7) + (((rr (it (shaR ww) ss j 4) (nI 6)) ^^^ (rr (it (shaR ww) ss j 4) (nI 11))) ^^^ (rr (it (shaR ww) ss j 4) (nI 25)))) + (((it (shaR ww) ss j 4) &&& (it (shaR ww) ss j 5)) ^^^ (((it (shaR ww) ss j 4) ^^^ (-1)) &&& (it (shaR ww) ss j 6)))) + (sha_K j)) + (ww j)))), (6, .int (it (shaR ww) ss j 4)), (7, .int (it (shaR ww) ss j 5)), (8, .int (it (shaR ww) ss j 6)), (9, .int (nI (j + 1)))]) [13, 1, 2, 3, 4, 5, 6, 7, 8, 0] rfl ?_
      exact ihj (trivial)
set_option maxHeartbeats 4000000 in
set_option maxRecDepth 100000 in
theorem c_X0_take (l : Launch) (g : gE) (a : Nat → Nat) (tk : Nat) (ss ww : Nat → Int32) (v : Int64) (n : Nat) (hn : n ≤ 8) (ht : tk + n < 2 ^ 30) : Kt l g yX0_take wsX0_take 2 54 0 0 [.ref (a 0), .long v, .int (nI n)] [(a 0, .inr (1, [.ref (a 1), .ref (a 2), .int (nI tk)])), (a 1, gI g 8 ss), (a 2, gI g 64 ww)] (kR none [(a 0, .inr (1, [.ref (a 1), .ref (a 2), .int (nI (tk + n))])), (a 1, gI g 8 ((tkL v n tk (ss, ww)).1)), (a 2, gI g 64 ((tkL v n tk (ss, ww)).2))]) := by
  have hinX0 : ∀ w ∈ wsX00, w ∈ wsX0_take := by
    intro w h
    unfold wsX0_take
    simp only [List.mem_cons, List.mem_append]
    simp only [h, or_true, true_or]
  refine g_enter (cc := cX0_take) (maxL := 6) (ret := none) (own := RX0) (L := [(0, .ref (a 0)), (1, .long v), (3, .int (nI n))]) (by decide) rfl rfl (Nat.le_of_ble_eq_true rfl) rfl ?_
  intro p e s m args below meth c hin0 C
  refine g_iload_n C dX0_take_0 rfl 2 rfl ?_
  refine g_iconst (v := nI 1) C dX0_take_1 (by decide) ?_
  refine g_isub C dX0_take_2 ?_
  refine g_istore (L' := [(4, .int ((nI n) - (nI 1))), (0, .ref (a 0)), (1, .long v), (3, .int (nI n))]) C dX0_take_3 (by decide) rfl ?_
  refine g_L (L2 := [(0, .ref (a 0)), (1, .long v), (3, .int (nI n)), (4, .int ((nI n) - (nI 1)))]) [1, 2, 3, 0] rfl ?_
  refine g_up n 0 (fun _ => True) (fun j => [(0, .ref (a 0)), (1, .long v), (3, .int (nI n)), (4, .int (nI (n - j) - 1))]) (fun j => [(a 0, .inr (1, [.ref (a 1), .ref (a 2), .int (nI (tk + j))])), (a 1, gI g 8 ((it (tkS v n tk) (ss, ww) j).1)), (a 2, gI g 64 ((it (tkS v n tk) (ss, ww) j).2))]) (by omega) (trivial) ?_ ?_
  · intro hPj
    try dsimp only
    rw [show nI (n - n) - 1 = (-1 : Int32) by rw [Nat.sub_self]; decide]
    refine g_iload C dX0_take_5 3 rfl ?_
    refine g_if_lt (tgt := 85) C dX0_take_7 (by decide) (fun c7 => ?_) (fun c7 => ?_)
    · skip
      refine g_vret C dX0_take_85 (by decide) (by decide) ?_
      exact ⟨rfl, rfl⟩
    · skip
      exact absurd (by decide) c7
  · intro j hlj huj hPj ihj
    try dsimp only at ihj ⊢
    rw [nI_dec huj]
    refine g_iload C dX0_take_5 3 rfl ?_
    refine g_if_lt_n (tgt := 85) C dX0_take_7 (by decide) (by omega) ?_
    refine g_aload_n C dX0_take_10 rfl 0 rfl ?_
    refine g_get C hinX0 0 rfl rfl 2 (by decide) (by decide +kernel) rfl rfl dX0_take_11 ?_
    refine g_bipush (v := nI 63) C dX0_take_14 (by decide) ?_
    refine g_iand_n (z := 64) (kk := 6) C dX0_take_16 (by omega) (by decide) (by decide) ?_
    refine g_iconst (v := nI 4) C dX0_take_17 (by decide) ?_
    refine g_idiv_n C dX0_take_18 (by omega) (by omega) (by omega) ?_
    refine g_istore (L' := [(5, .int (nI (((tk + j) % 64) / 4))), (0, .ref (a 0)), (1, .long v), (3, .int (nI n)), (4, .int (nI (n - j - 1)))]) C dX0_take_19 (by decide) rfl ?_
    refine g_aload_n C dX0_take_21 rfl 1 rfl ?_
    refine g_get C hinX0 0 rfl rfl 1 (by decide) (by decide +kernel) rfl rfl dX0_take_22 ?_
    refine g_iload C dX0_take_25 0 rfl ?_
    refine g_aload_n C dX0_take_27 rfl 1 rfl ?_
    refine g_get C hinX0 0 rfl rfl 1 (by decide) (by decide +kernel) rfl rfl dX0_take_28 ?_
    refine g_iload C dX0_take_31 0 rfl ?_
    refine g_iald C 2 rfl (by omega) (by decide) dX0_take_33 ?_
    refine g_bipush (v := nI 8) C dX0_take_34 (by decide) ?_
    refine g_ishl C dX0_take_36 ?_
    refine g_lload_n C dX0_take_37 rfl 2 rfl ?_
    refine g_bipush (v := nI 8) C dX0_take_38 (by decide) ?_
    refine g_iload C dX0_take_40 4 rfl ?_
    refine g_imul_n C dX0_take_42 ?_
    refine g_lushr C dX0_take_43 ?_
    refine g_l2i C dX0_take_44 ?_
    refine g_sipush (v := nI 255) C dX0_take_45 (by decide) ?_
    refine g_iand C dX0_take_48 ?_
    refine g_ior C dX0_take_49 ?_
    refine g_iast (w2 := [(a 0, .inr (1, [.ref (a 1), .ref (a 2), .int (nI (tk + j))])), (a 1, gI g 8 ((it (tkS v n tk) (ss, ww) j).1)), (a 2, gI g 64 (va_up ((it (tkS v n tk) (ss, ww) j).2) (((tk + j) % 64) / 4) (((((it (tkS v n tk) (ss, ww) j).2) (((tk + j) % 64) / 4)) <<< ((nI 8) &&& 31)) ||| ((Int64.toInt32 ((Int64.toUInt64 v >>> ((Int32.toInt64 (nI (8 * (n - j - 1)))).toUInt64 &&& Int64.toUInt64 63)).toInt64)) &&& (nI 255)))))]) C 2 rfl (by omega) (by decide) rfl dX0_take_50 ?_
    refine g_aload_n C dX0_take_51 rfl 1 rfl ?_
    refine g_dup C dX0_take_52 rfl ?_
    refine g_get C hinX0 0 rfl rfl 2 (by decide) (by decide +kernel) rfl rfl dX0_take_53 ?_
    refine g_iconst (v := nI 1) C dX0_take_56 (by decide) ?_
    refine g_iadd_n C dX0_take_57 ?_
    refine g_put (ty := .int) (w2 := [(a 0, .inr (1, [.ref (a 1), .ref (a 2), .int (nI ((tk + j) + 1))])), (a 1, gI g 8 ((it (tkS v n tk) (ss, ww) j).1)), (a 2, gI g 64 (va_up ((it (tkS v n tk) (ss, ww) j).2) (((tk + j) % 64) / 4) (((((it (tkS v n tk) (ss, ww) j).2) (((tk + j) % 64) / 4)) <<< ((nI 8) &&& 31)) ||| ((Int64.toInt32 ((Int64.toUInt64 v >>> ((Int32.toInt64 (nI (8 * (n - j - 1)))).toUInt64 &&& Int64.toUInt64 63)).toInt64)) &&& (nI 255)))))]) C hinX0 0 rfl rfl 2 (by decide) (by decide +kernel) rfl tyX0 tyX0_ok nmX0 rfl (by decide +kernel) rfl rfl (Nat.le_of_ble_eq_true rfl) rfl dX0_take_58 ?_
    refine g_aload_n C dX0_take_61 rfl 1 rfl ?_
    refine g_get C hinX0 0 rfl rfl 2 (by decide) (by decide +kernel) rfl rfl dX0_take_62 ?_
    refine g_bipush (v := nI 63) C dX0_take_65 (by decide) ?_
    refine g_iand_n (z := 64) (kk := 6) C dX0_take_67 (by omega) (by decide) (by decide) ?_
    refine g_if_ne_n (tgt := 79) C dX0_take_68 (by decide) (by omega) (fun c68 => ?_) (fun c68 => ?_)
    · skip
      rw [tkS_ne c68] at ihj
      refine g_iinc (v := (nI (n - j - 1)) - 1) (L' := [(4, .int ((nI (n - j - 1)) - 1)), (5, .int (nI (((tk + j) % 64) / 4))), (0, .ref (a 0)), (1, .long v), (3, .int (nI n))]) C dX0_take_79 4 rfl (by rw [Int32.sub_eq_add_neg]; rfl) (by decide) rfl ?_
      refine g_goto (tgt := 5) C dX0_take_82 (by decide) ?_
      refine g_L (L2 := [(0, .ref (a 0)), (1, .long v), (3, .int (nI n)), (4, .int ((nI (n - j - 1)) - 1))]) [2, 3, 4, 0] rfl ?_
      exact ihj (trivial)
    · skip
      rw [tkS_eq c68] at ihj
      refine g_aload_n C dX0_take_71 rfl 1 rfl ?_
      refine g_callV0 (wr := []) (w2 := [(a 0, .inr (1, [.ref (a 1), .ref (a 2), .int (nI ((tk + j) + 1))])), (a 1, gI g 8 ((it (tkS v n tk) (ss, ww) j).1)), (a 2, gI g 64 (it spr (va_up ((it (tkS v n tk) (ss, ww) j).2) (((tk + j) % 64) / 4) (((((it (tkS v n tk) (ss, ww) j).2) (((tk + j) % 64) / 4)) <<< ((nI 8) &&& 31)) ||| ((Int64.toInt32 ((Int64.toUInt64 v >>> ((Int32.toInt64 (nI (8 * (n - j - 1)))).toUInt64 &&& Int64.toUInt64 63)).toInt64)) &&& (nI 255)))) 48))]) C (c_X0_spreadWords l g a ((tk + j) + 1) ((it (tkS v n tk) (ss, ww) j).1) (va_up ((it (tkS v n tk) (ss, ww) j).2) (((tk + j) % 64) / 4) (((((it (tkS v n tk) (ss, ww) j).2) (((tk + j) % 64) / 4)) <<< ((nI 8) &&& 31)) ||| ((Int64.toInt32 ((Int64.toUInt64 v >>> ((Int32.toInt64 (nI (8 * (n - j - 1)))).toUInt64 &&& Int64.toUInt64 63)).toInt64)) &&& (nI 255))))) (cwV 0 C.2.2.2.2.1 gX0_take_X0_spreadWords rfl rfl rfl (by decide +kernel) ⟨Nat.le_of_ble_eq_true rfl, Nat.le_of_ble_eq_true rfl⟩) 0 rfl rfl rfl [0, 1, 2] [] rfl rfl rfl rfl rfl (by decide) rfl rfl (Nat.le_of_ble_eq_true rfl) dX0_take_72 ⟨Nat.le_of_ble_eq_true rfl, Nat.le_of_ble_eq_true rfl⟩ rfl ?_
      refine g_aload_n C dX0_take_75 rfl 1 rfl ?_
      refine g_callV0 (wr := []) (w2 := [(a 0, .inr (1, [.ref (a 1), .ref (a 2), .int (nI ((tk + j) + 1))])), (a 1, gI g 8 (shaAdd ((it (tkS v n tk) (ss, ww) j).1) (it (shaR (it spr (va_up ((it (tkS v n tk) (ss, ww) j).2) (((tk + j) % 64) / 4) (((((it (tkS v n tk) (ss, ww) j).2) (((tk + j) % 64) / 4)) <<< ((nI 8) &&& 31)) ||| ((Int64.toInt32 ((Int64.toUInt64 v >>> ((Int32.toInt64 (nI (8 * (n - j - 1)))).toUInt64 &&& Int64.toUInt64 63)).toInt64)) &&& (nI 255)))) 48)) ((it (tkS v n tk) (ss, ww) j).1) 64))), (a 2, gI g 64 (it spr (va_up ((it (tkS v n tk) (ss, ww) j).2) (((tk + j) % 64) / 4) (((((it (tkS v n tk) (ss, ww) j).2) (((tk + j) % 64) / 4)) <<< ((nI 8) &&& 31)) ||| ((Int64.toInt32 ((Int64.toUInt64 v >>> ((Int32.toInt64 (nI (8 * (n - j - 1)))).toUInt64 &&& Int64.toUInt64 63)).toInt64)) &&& (nI 255)))) 48))]) C (c_X0_mixBlock l g a ((tk + j) + 1) ((it (tkS v n tk) (ss, ww) j).1) (it spr (va_up ((it (tkS v n tk) (ss, ww) j).2) (((tk + j) % 64) / 4) (((((it (tkS v n tk) (ss, ww) j).2) (((tk + j) % 64) / 4)) <<< ((nI 8) &&& 31)) ||| ((Int64.toInt32 ((Int64.toUInt64 v >>> ((Int32.toInt64 (nI (8 * (n - j - 1)))).toUInt64 &&& Int64.toUInt64 63)).toInt64)) &&& (nI 255)))) 48)) (cwV 0 C.2.2.2.2.1 gX0_take_X0_mixBlock rfl rfl rfl (by decide +kernel) ⟨Nat.le_of_ble_eq_true rfl, Nat.le_of_ble_eq_true rfl⟩) 0 rfl rfl rfl [0, 1, 2] [] rfl rfl rfl rfl rfl (by decide) rfl rfl (Nat.le_of_ble_eq_true rfl) dX0_take_76 ⟨Nat.le_of_ble_eq_true rfl, Nat.le_of_ble_eq_true rfl⟩ rfl ?_
      refine g_iinc (v := (nI (n - j - 1)) - 1) (L' := [(4, .int ((nI (n - j - 1)) - 1)), (5, .int (nI (((tk + j) % 64) / 4))), (0, .ref (a 0)), (1, .long v), (3, .int (nI n))]) C dX0_take_79 4 rfl (by rw [Int32.sub_eq_add_neg]; rfl) (by decide) rfl ?_
      refine g_goto (tgt := 5) C dX0_take_82 (by decide) ?_
      refine g_L (L2 := [(0, .ref (a 0)), (1, .long v), (3, .int (nI n)), (4, .int ((nI (n - j - 1)) - 1))]) [2, 3, 4, 0] rfl ?_
      exact ihj (trivial)
set_option maxHeartbeats 4000000 in
set_option maxRecDepth 100000 in
theorem c_X0_finish (l : Launch) (g : gE) (a : Nat → Nat) (tk : Nat) (ss ww : Nat → Int32) (ht : tk < 2 ^ 20) : Kt l g yX0_finish wsX0_finish 3 79 0 0 [.ref (a 0)] [(a 0, .inr (1, [.ref (a 1), .ref (a 2), .int (nI tk)])), (a 1, gI g 8 ss), (a 2, gI g 64 ww)] (kR none [(a 0, .inr (1, [.ref (a 1), .ref (a 2), .int (nI (tk + 1 + zN tk + 8))])), (a 1, gI g 8 ((finS tk (ss, ww)).1)), (a 2, gI g 64 ((finS tk (ss, ww)).2))]) := by
  have hinX0 : ∀ w ∈ wsX00, w ∈ wsX0_finish := by
    intro w h
    unfold wsX0_finish
    simp only [List.mem_cons, List.mem_append]
    simp only [h, or_true, true_or]
  refine g_enter (cc := cX0_finish) (maxL := 4) (ret := none) (own := RX0) (L := [(0, .ref (a 0))]) (by decide) rfl rfl (Nat.le_of_ble_eq_true rfl) rfl ?_
  intro p e s m args below meth c hin0 C
  have hz : zN tk < 64 ∧ (tk + 1 + zN tk) % 64 = 56 ∧ ∀ i, i < zN tk → (tk + 1 + i) % 64 ≠ 56 := by unfold zN; exact ⟨by omega, by omega, fun i h => by omega⟩
  refine g_ldc2 (v := 8) C (by decide +kernel) dX0_finish_0 ?_
  refine g_aload_n C dX0_finish_3 rfl 0 rfl ?_
  refine g_get C hinX0 0 rfl rfl 2 (by decide) (by decide +kernel) rfl rfl dX0_finish_4 ?_
  refine g_i2l C dX0_finish_7 ?_
  refine g_lmul C dX0_finish_8 ?_
  refine g_lstore_n (L' := [(1, .long ((8 : Int64) * (Int32.toInt64 (nI tk)))), (0, .ref (a 0))]) C dX0_finish_9 rfl (by decide) rfl ?_
  refine g_aload_n C dX0_finish_10 rfl 1 rfl ?_
  refine g_ldc2 (v := 128) C (by decide +kernel) dX0_finish_11 ?_
  refine g_iconst (v := nI 1) C dX0_finish_14 (by decide) ?_
  refine g_callV0 (wr := []) (w2 := [(a 0, .inr (1, [.ref (a 1), .ref (a 2), .int (nI (tk + 1))])), (a 1, gI g 8 ((tkL (128 : Int64) 1 tk (ss, ww)).1)), (a 2, gI g 64 ((tkL (128 : Int64) 1 tk (ss, ww)).2))]) C (c_X0_take l g a tk ss ww (128 : Int64) 1 (by omega) (by omega)) (cwV 2 C.2.2.2.2.1 gX0_finish_X0_take rfl rfl rfl (by decide +kernel) ⟨Nat.le_of_ble_eq_true rfl, Nat.le_of_ble_eq_true rfl⟩) 0 rfl rfl rfl [0, 1, 2] [] rfl rfl rfl rfl rfl (by decide) rfl rfl (Nat.le_of_ble_eq_true rfl) dX0_finish_15 ⟨Nat.le_of_ble_eq_true rfl, Nat.le_of_ble_eq_true rfl⟩ rfl ?_
  refine g_iconst (v := nI 0) C dX0_finish_18 (by decide) ?_
  refine g_istore_n (L' := [(3, .int (nI 0)), (1, .long ((8 : Int64) * (Int32.toInt64 (nI tk)))), (0, .ref (a 0))]) C dX0_finish_19 rfl (by decide) rfl ?_
  refine g_up (zN tk) 0 (fun _ => True) (fun j => [(3, .int (nI j)), (1, .long ((8 : Int64) * (Int32.toInt64 (nI tk)))), (0, .ref (a 0))]) (fun j => [(a 0, .inr (1, [.ref (a 1), .ref (a 2), .int (nI (tk + 1 + j))])), (a 1, gI g 8 ((it (tkZ tk) (tkL 128 1 tk (ss, ww)) j).1)), (a 2, gI g 64 ((it (tkZ tk) (tkL 128 1 tk (ss, ww)) j).2))]) (by omega) (trivial) ?_ ?_
  · intro hPj
    try dsimp only
    refine g_iload_n C dX0_finish_20 rfl 0 rfl ?_
    refine g_bipush (v := nI 63) C dX0_finish_21 (by decide) ?_
    refine g_icmp_gt_n (tgt := 50) C dX0_finish_23 (by decide) (by omega) (by omega) (fun c23 => ?_) (fun c23 => ?_)
    · skip
      exfalso; omega
    · skip
      refine g_aload_n C dX0_finish_26 rfl 2 rfl ?_
      refine g_get C hinX0 0 rfl rfl 2 (by decide) (by decide +kernel) rfl rfl dX0_finish_27 ?_
      refine g_bipush (v := nI 63) C dX0_finish_30 (by decide) ?_
      refine g_iand_n (z := 64) (kk := 6) C dX0_finish_32 (by omega) (by decide) (by decide) ?_
      refine g_bipush (v := nI 56) C dX0_finish_33 (by decide) ?_
      refine g_icmp_eq_n (tgt := 50) C dX0_finish_35 (by decide) (by omega) (by omega) (fun c35 => ?_) (fun c35 => ?_)
      · skip
        refine g_aload_n C dX0_finish_50 rfl 2 rfl ?_
        refine g_lload_n C dX0_finish_51 rfl 1 rfl ?_
        refine g_bipush (v := nI 8) C dX0_finish_52 (by decide) ?_
        refine g_callV0 (wr := []) (w2 := [(a 0, .inr (1, [.ref (a 1), .ref (a 2), .int (nI ((tk + 1 + (zN tk)) + 8))])), (a 1, gI g 8 ((tkL ((8 : Int64) * (Int32.toInt64 (nI tk))) 8 (tk + 1 + (zN tk)) (((it (tkZ tk) (tkL 128 1 tk (ss, ww)) (zN tk)).1), ((it (tkZ tk) (tkL 128 1 tk (ss, ww)) (zN tk)).2))).1)), (a 2, gI g 64 ((tkL ((8 : Int64) * (Int32.toInt64 (nI tk))) 8 (tk + 1 + (zN tk)) (((it (tkZ tk) (tkL 128 1 tk (ss, ww)) (zN tk)).1), ((it (tkZ tk) (tkL 128 1 tk (ss, ww)) (zN tk)).2))).2))]) C (c_X0_take l g a (tk + 1 + (zN tk)) ((it (tkZ tk) (tkL 128 1 tk (ss, ww)) (zN tk)).1) ((it (tkZ tk) (tkL 128 1 tk (ss, ww)) (zN tk)).2) ((8 : Int64) * (Int32.toInt64 (nI tk))) 8 (by omega) (by omega)) (cwV 2 C.2.2.2.2.1 gX0_finish_X0_take rfl rfl rfl (by decide +kernel) ⟨Nat.le_of_ble_eq_true rfl, Nat.le_of_ble_eq_true rfl⟩) 0 rfl rfl rfl [0, 1, 2] [] rfl rfl rfl rfl rfl (by decide) rfl rfl (Nat.le_of_ble_eq_true rfl) dX0_finish_54 ⟨Nat.le_of_ble_eq_true rfl, Nat.le_of_ble_eq_true rfl⟩ rfl ?_
        refine g_vret C dX0_finish_57 (by decide) (by decide) ?_
        exact ⟨rfl, rfl⟩
      · skip
        exfalso; omega
  · intro j hlj huj hPj ihj
    try dsimp only at ihj ⊢
    have hz2 := hz.2.2 j huj
    refine g_iload_n C dX0_finish_20 rfl 0 rfl ?_
    refine g_bipush (v := nI 63) C dX0_finish_21 (by decide) ?_
    refine g_icmp_gt_n (tgt := 50) C dX0_finish_23 (by decide) (by omega) (by omega) (fun c23 => ?_) (fun c23 => ?_)
    · skip
      exfalso; omega
    · skip
      refine g_aload_n C dX0_finish_26 rfl 2 rfl ?_
      refine g_get C hinX0 0 rfl rfl 2 (by decide) (by decide +kernel) rfl rfl dX0_finish_27 ?_
      refine g_bipush (v := nI 63) C dX0_finish_30 (by decide) ?_
      refine g_iand_n (z := 64) (kk := 6) C dX0_finish_32 (by omega) (by decide) (by decide) ?_
      refine g_bipush (v := nI 56) C dX0_finish_33 (by decide) ?_
      refine g_icmp_eq_n (tgt := 50) C dX0_finish_35 (by decide) (by omega) (by omega) (fun c35 => ?_) (fun c35 => ?_)
      · skip
        exfalso; omega
      · skip
        refine g_aload_n C dX0_finish_38 rfl 2 rfl ?_
        refine g_lconst (v := 0) C dX0_finish_39 (by decide) ?_
        refine g_iconst (v := nI 1) C dX0_finish_40 (by decide) ?_
        refine g_callV0 (wr := []) (w2 := [(a 0, .inr (1, [.ref (a 1), .ref (a 2), .int (nI ((tk + 1 + j) + 1))])), (a 1, gI g 8 ((tkL (0 : Int64) 1 (tk + 1 + j) (((it (tkZ tk) (tkL 128 1 tk (ss, ww)) j).1), ((it (tkZ tk) (tkL 128 1 tk (ss, ww)) j).2))).1)), (a 2, gI g 64 ((tkL (0 : Int64) 1 (tk + 1 + j) (((it (tkZ tk) (tkL 128 1 tk (ss, ww)) j).1), ((it (tkZ tk) (tkL 128 1 tk (ss, ww)) j).2))).2))]) C (c_X0_take l g a (tk + 1 + j) ((it (tkZ tk) (tkL 128 1 tk (ss, ww)) j).1) ((it (tkZ tk) (tkL 128 1 tk (ss, ww)) j).2) (0 : Int64) 1 (by omega) (by omega)) (cwV 2 C.2.2.2.2.1 gX0_finish_X0_take rfl rfl rfl (by decide +kernel) ⟨Nat.le_of_ble_eq_true rfl, Nat.le_of_ble_eq_true rfl⟩) 0 rfl rfl rfl [0, 1, 2] [] rfl rfl rfl rfl rfl (by decide) rfl rfl (Nat.le_of_ble_eq_true rfl) dX0_finish_41 ⟨Nat.le_of_ble_eq_true rfl, Nat.le_of_ble_eq_true rfl⟩ rfl ?_
        refine g_iinc_n (d := 1) (L' := [(3, .int (nI (j + 1))), (1, .long ((8 : Int64) * (Int32.toInt64 (nI tk)))), (0, .ref (a 0))]) C dX0_finish_44 0 rfl (by decide) (by decide) rfl ?_
        refine g_goto (tgt := 20) C dX0_finish_47 (by decide) ?_
        exact ihj (trivial)
