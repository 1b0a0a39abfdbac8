/-! the law: its own rows, its world, what holds between class and reference -/
def R_law : String := "DigestTreesLaw"
def lw_P (b : Addr) (xs : List Int32) (args : Array Value) (s : State) : Prop := args = #[.ref b] ∧ s.IntsAt b xs ∧ xs.length ≤ 3072 ∧ (Jvm.Cond.and given_1 narrow_1).before args s = true
def lw_Q (_ : Array Value) (s : State) (o : Outcome) (t : State) : Prop := o = .returned (some (.int 1)) ∧ Framed s o t [] 1088 22806
def lw_Z (below : List Frame) (a : Array Value) (s : State) : State → Prop := fun t => ∃ o, t.status = .running ∧ Ended t below o ∧ lw_Q a s o t
section GL
variable {p : Program} {l : Launch} {e : Env} {R : Room} {s : State} {m : MethodId} {args : Array Value} {below : List Frame} {meth : Method} {c : Code}
variable {cc : ByteArray} {nL cells slots pc : Nat} {own : String} {Ts : List Cond} {ret : Option FieldType} {g : gE} {A : Nat → Prop} {Q : State → Prop} {L : List (Nat × Value)} {st : List Value} {w : va_W}
theorem g_sld {b Lx i : Nat} {xs : Nat → Int32} (C : gC p s m args meth c cc nL own Ts ret g A) (hX : va_X b Lx xs s s.heap) (hbl : b < s.heap.size) (hbA : ¬ A b) (h : i < Lx) (hn : Lx < 2 ^ 31) (hd : decode cc pc = .ok (.iaload, 1))
    (kk : G p l e R s m args below meth c g A nL cells slots Q (pc + 1) L (.int (xs i) :: st) w) : G p l e R s m args below meth c g A nL cells slots Q pc L (.int (nI i) :: .ref b :: st) w := fun H locs ls hP hD hS hl =>
  va_sld C.1 C.2.1 hX hbl hbA hS (vp_in_nI h hn) hd ((congrArg xs (nI_clamp (Nat.lt_trans h hn))).symm ▸ kk H locs ls hP hD hS hl)
theorem g_slen {b Lx : Nat} {xs : Nat → Int32} (C : gC p s m args meth c cc nL own Ts ret g A) (hX : va_X b Lx xs s s.heap) (hbl : b < s.heap.size) (hbA : ¬ A b) (hd : decode cc pc = .ok (.arraylength, 1))
    (kk : G p l e R s m args below meth c g A nL cells slots Q (pc + 1) L (.int (nI Lx) :: st) w) : G p l e R s m args below meth c g A nL cells slots Q pc L (.ref b :: st) w := fun H locs ls hP hD hS hl =>
  va_slen C.1 C.2.1 hX hbl hbA hS hd (kk H locs ls hP hD hS hl)
theorem g_callSW {y : MethodName} {ws : List Cond} {bytes : ByteArray} {ret9 : Option FieldType} {hh : List (Nat × Nat × Nat × Nat)} {fr lo mc ms n index maxL : Nat} {As rest st0 : List Value} {wc wr w1 w2 : va_W} {v : Value} (C : gC p s m args meth c cc nL own Ts ret g A) (M : Kt l g y ws fr lo mc ms As wc (kR (some v) w1)) (cw : vx_CSW R s args own index y bytes maxL ret9 hh ws { frames := fr, cells := mc, slots := ms, locals := lo } mc ms n)
    (isC isR : List Nat) (hC : isC.map (fun i => w[i]?) = wc.map some) (hC2 : isC.filterMap (fun i => w[i]?) = wc) (hR : isR.map (fun i => w[i]?) = wr.map some) (hnC : va_nd isC = true) (hnR : va_nd isR = true) (hdis : ∀ i ∈ isR, i ∉ isC) (hlen : As.length = n) (hst : st0 = As.reverse ++ rest) (hcat : (rest.map fun v => v.category).sum ≤ 8) (hd : decode cc pc = .ok (.invokestatic index, 3)) (hf : cells + mc ≤ R.cells ∧ slots + ms ≤ R.slots) (hw2 : wr ++ w1 = w2)
    (k : G p l e R s m args below meth c g A nL (cells + mc) (slots + ms) Q (pc + 3) L (v :: rest) w2) : G p l e R s m args below meth c g A nL cells slots Q pc L st0 w := by
  subst hst
  refine g_run (a := As.toArray) (post := kR (some v) w1) C isC isR hC hR hnR hdis (fun H locs ls hP hD hS hl => ?_) (fun v9 w9 h9 => by obtain ⟨rfl, rfl⟩ := h9; subst hw2; exact k)
  exact vx_runSW ⟨C.1, C.2.1, C.2.2.1, C.2.2.2.1, C.2.2.2.2.1⟩ (M H.size) cw ⟨kP_blind, g_pre C isC hC hC2 hnC hP hD hS⟩ rfl hlen hl.1 rfl (lv_room hcat) hd hf
theorem g_callST {sa : Nat → Nat} {y : MethodName} {ws : List Cond} {bytes : ByteArray} {ret9 : Option FieldType} {hh : List (Nat × Nat × Nat × Nat)} {fr lo mc ms n index maxL : Nat} {As rest st0 : List Value} {wc wr w1 w2 : va_W} {v : Value} (C : gC p s m args meth c cc nL own Ts ret g A) (hT : gTH sa s) (M : KtT l g sa y ws fr lo mc ms As wc (kR (some v) w1)) (cw : vx_CSW R s args own index y bytes maxL ret9 hh ws { frames := fr, cells := mc, slots := ms, locals := lo } mc ms n)
    (isC isR : List Nat) (hC : isC.map (fun i => w[i]?) = wc.map some) (hC2 : isC.filterMap (fun i => w[i]?) = wc) (hR : isR.map (fun i => w[i]?) = wr.map some) (hnC : va_nd isC = true) (hnR : va_nd isR = true) (hdis : ∀ i ∈ isR, i ∉ isC) (hlen : As.length = n) (hst : st0 = As.reverse ++ rest) (hcat : (rest.map fun v => v.category).sum ≤ 8) (hd : decode cc pc = .ok (.invokestatic index, 3)) (hf : cells + mc ≤ R.cells ∧ slots + ms ≤ R.slots) (hw2 : wr ++ w1 = w2)
    (k : G p l e R s m args below meth c g A nL (cells + mc) (slots + ms) Q (pc + 3) L (v :: rest) w2) : G p l e R s m args below meth c g A nL cells slots Q pc L st0 w := by
  subst hst
  refine g_run (a := As.toArray) (post := kR (some v) w1) C isC isR hC hR hnR hdis (fun H locs ls hP hD hS hl => ?_) (fun v9 w9 h9 => by obtain ⟨rfl, rfl⟩ := h9; subst hw2; exact k)
  exact vx_runSW ⟨C.1, C.2.1, C.2.2.1, C.2.2.2.1, C.2.2.2.2.1⟩ (M H.size) cw ⟨kPT_blind, fun U hU hW => ⟨g_pre C isC hC hC2 hnC hP hD hS U hU hW, hT.warm hW⟩⟩ rfl hlen hl.1 rfl (lv_room hcat) hd hf
end GL
theorem lw_c49 : Cond.constantLong RL 49 4294967295 ∈ wsL_lawT := wsL_lawT_l _ (by decide +kernel)
theorem gL_law_L_digestT : GoodIn wsL_lawT (va_wsS RL 111 yL_digest wsL_digestT) := by
  have h1 : GoodIn wsL_lawT (va_wsS RL 111 yL_digest wsL_digest) := goodIn_up gL_law_L_digest wsL_lawT_l
  have h2 : GoodIn wsL_lawT (Cond.classLink RL 39 "java/lang/ArrayIndexOutOfBoundsException" :: atIOB) := by
    intro w hw
    refine ⟨List.mem_append_right _ hw, ?_⟩
    rcases List.mem_cons.mp hw with h | h
    · rw [h]; exact good_of_word (by decide)
    · exact good_of_word (List.mem_filter.mp h).2
  intro w hw
  have hw' : w ∈ va_wsS RL 111 yL_digest wsL_digest ++ (Cond.classLink RL 39 "java/lang/ArrayIndexOutOfBoundsException" :: atIOB) := hw
  rcases List.mem_append.mp hw' with h | h
  · exact h1 w h
  · exact h2 w h
theorem gL_law_L_sumT : GoodIn wsL_lawT (va_wsS RL 114 yL_sum wsL_sumT) := by
  have h1 : GoodIn wsL_lawT (va_wsS RL 114 yL_sum wsL_sum) := goodIn_up gL_law_L_sum wsL_lawT_l
  have h2 : GoodIn wsL_lawT (Cond.classLink RL 39 "java/lang/ArrayIndexOutOfBoundsException" :: atIOB) := by
    intro w hw
    refine ⟨List.mem_append_right _ hw, ?_⟩
    rcases List.mem_cons.mp hw with h | h
    · rw [h]; exact good_of_word (by decide)
    · exact good_of_word (List.mem_filter.mp h).2
  intro w hw
  have hw' : w ∈ va_wsS RL 114 yL_sum wsL_sum ++ (Cond.classLink RL 39 "java/lang/ArrayIndexOutOfBoundsException" :: atIOB) := hw
  rcases List.mem_append.mp hw' with h | h
  · exact h1 w h
  · exact h2 w h
/-- class and reference beside each other -/
abbrev LR (sz : Int32) (pr : Nat → Bool) (va : Nat → Int64) (ho : Nat → Bool) (dg : Nat → Int32) (sm : Nat → Int32) (ct : Nat → Int32) (sz2 : Int32) (pr2 : Nat → Bool) (va2 : Nat → Int64) (ho2 : Nat → Bool) (dg2 : Nat → Int32) (sm2 : Nat → Int32) (ct2 : Nat → Int32) (tk : Nat) (ss : Nat → Int32) (ww : Nat → Int32) (rg : Nat → Nat) (cm : Nat → Nat) (kd : Nat → Int32) (sl : Nat → Nat) (pe : Nat) (cs : Nat) (ts : Nat) (dn : Int32) (co : Nat → Int32) (ky : Nat → Int32) (vl : Nat → Int64) (mk : Nat → Int32) (fs : Nat → Int32) (fl : Nat → Nat) (fv : Nat → Int64) (th : Nat) (fz : Nat) (th9 : Int32) (wk : Bool) (ro : Int32) (lo : Nat) (ne : Nat) (di : Nat) (ta : Bool) (ce : Nat) (fo : Nat) (bt : Nat) (hs : Nat → Bool) (tr : Nat → Bool) (vw : Nat → Int64) (kw : Nat → Bool) (kv : Nat → Int64) (fr : Nat → Bool) (Dg : Nat → Int32) (Sm : Nat → Int32) (rd : Nat → Int32) (lk : Nat → Nat) (nx : Nat → Nat) (df : Nat → Int32) (Co : Nat → Int32) (Ky : Nat → Int32) (Vl : Nat → Int64) (Mk : Nat → Int32) (Fs : Nat → Int32) (Fl : Nat → Nat) (Fv : Nat → Int64) (tx : Nat → Int32) (wo : Nat → Int32) (ch : Nat → Int32) (wr : Nat → Int32) (ol : Nat → Int32) (ov : Nat → Int64) : Prop :=
  SR 0 sz pr va ho dg sm ct hs tr vw kw kv ∧ SR 1 sz2 pr2 va2 ho2 dg2 sm2 ct2 hs tr vw kw kv ∧ FB dg sm dg2 sm2 (fr, (Dg, Sm, (bt, tx), (ch, wo, wr))) ∧ (∀ t, t < 64 → rd t = sha_K t) ∧ WR rg kd sl pe ts dn wk ro lo di lk df ∧ TB fs fl fv fz ta fo Fs Fl Fv
/-- the law's world -/
def lwW (g : gE) (a z o h y t mm : Nat → Nat) (q : Nat) (sz : Int32) (pr : Nat → Bool) (va : Nat → Int64) (ho : Nat → Bool) (dg : Nat → Int32) (sm : Nat → Int32) (ct : Nat → Int32) (sz2 : Int32) (pr2 : Nat → Bool) (va2 : Nat → Int64) (ho2 : Nat → Bool) (dg2 : Nat → Int32) (sm2 : Nat → Int32) (ct2 : Nat → Int32) (tk : Nat) (ss : Nat → Int32) (ww : Nat → Int32) (rg : Nat → Nat) (cm : Nat → Nat) (kd : Nat → Int32) (sl : Nat → Nat) (pe : Nat) (cs : Nat) (ts : Nat) (dn : Int32) (co : Nat → Int32) (ky : Nat → Int32) (vl : Nat → Int64) (mk : Nat → Int32) (fs : Nat → Int32) (fl : Nat → Nat) (fv : Nat → Int64) (th : Nat) (fz : Nat) (th9 : Int32) (wk : Bool) (ro : Int32) (lo : Nat) (ne : Nat) (di : Nat) (ta : Bool) (ce : Nat) (fo : Nat) (bt : Nat) (hs : Nat → Bool) (tr : Nat → Bool) (vw : Nat → Int64) (kw : Nat → Bool) (kv : Nat → Int64) (fr : Nat → Bool) (Dg : Nat → Int32) (Sm : Nat → Int32) (rd : Nat → Int32) (lk : Nat → Nat) (nx : Nat → Nat) (df : Nat → Int32) (Co : Nat → Int32) (Ky : Nat → Int32) (Vl : Nat → Int64) (Mk : Nat → Int32) (Fs : Nat → Int32) (Fl : Nat → Nat) (Fv : Nat → Int64) (tx : Nat → Int32) (wo : Nat → Int32) (ch : Nat → Int32) (wr : Nat → Int32) (ol : Nat → Int32) (ov : Nat → Int64) : va_W := [(a 0, .inr (5, [.ref (z 0), .ref (o 0), .ref (h 0), .ref (y 0), .ref (t 0)])), (z 0, .inr (2, [.ref (z 1), .ref (z 2), .ref (z 3), .ref (z 4), .ref (z 5), .ref (z 6), .int sz])), (z 1, gZ g 256 pr), (z 2, gJ g 256 va), (z 3, gZ g 4 ho), (z 4, gI g 512 dg), (z 5, gI g 64 sm), (z 6, gI g 64 ct), (o 0, .inr (2, [.ref (o 1), .ref (o 2), .ref (o 3), .ref (o 4), .ref (o 5), .ref (o 6), .int sz2])), (o 1, gZ g 256 pr2), (o 2, gJ g 256 va2), (o 3, gZ g 4 ho2), (o 4, gI g 512 dg2), (o 5, gI g 64 sm2), (o 6, gI g 64 ct2), (h 0, .inr (1, [.ref (h 1), .ref (h 2), .int (nI tk)])), (h 1, gI g 8 ss), (h 2, gI g 64 ww), (y 0, .inr (4, [.ref (y 1), .ref (y 2), .ref (y 3), .ref (y 4), .int (nI pe), .int (nI cs), .int (nI ts), .int dn])), (y 1, gN g 32 rg), (y 2, gN g 32 cm), (y 3, gI g 256 kd), (y 4, gN g 256 sl), (t 0, .inr (3, [.ref (t 1), .ref (t 2), .ref (t 3), .ref (t 4), .ref (t 5), .ref (t 6), .ref (t 7), .int (nI th), .int (nI fz)])), (t 1, gI g 63 co), (t 2, gI g 63 ky), (t 3, gJ g 63 vl), (t 4, gI g 63 mk), (t 5, gI g 256 fs), (t 6, gN g 256 fl), (t 7, gJ g 256 fv), (mm 0, oM mm th9 (bI wk) ro (nI lo) (nI ne) (nI di) (bI ta) (nI ce) (nI fo) (nI bt)), (mm 2, gZ g 8 hs), (mm 3, gZ g 512 tr), (mm 4, gJ g 512 vw), (mm 5, gZ g 512 kw), (mm 6, gJ g 512 kv), (mm 7, gZ g 2 fr), (mm 8, gI g 4096 Dg), (mm 9, gI g 128 Sm), (mm 10, gI g 64 rd), (mm 14, gN g 64 lk), (mm 16, gN g 64 nx), (mm 18, gI g 768 df), (mm 21, gI g 63 Co), (mm 22, gI g 63 Ky), (mm 23, gJ g 63 Vl), (mm 24, gI g 63 Mk), (mm 26, gI g 256 Fs), (mm 27, gN g 256 Fl), (mm 28, gJ g 256 Fv), (mm 30, gI g 128 tx), (mm 31, gI g 64 wo), (mm 32, gI g 8 ch), (mm 33, gI g 8 wr), (mm 34, gI g 2048 ol), (q, gJ g 1 ov)]
/-- the law at pc, i in its local 4, j calls done -/
abbrev lwG (p : Program) (l : Launch) (e : Env) (s : State) (m : MethodId) (below : List Frame) (meth : Method) (c : Code) (g : gE) (b : Nat) (a z o h y t mm : Nat → Nat) (q j i pc : Nat) (sz : Int32) (pr : Nat → Bool) (va : Nat → Int64) (ho : Nat → Bool) (dg : Nat → Int32) (sm : Nat → Int32) (ct : Nat → Int32) (sz2 : Int32) (pr2 : Nat → Bool) (va2 : Nat → Int64) (ho2 : Nat → Bool) (dg2 : Nat → Int32) (sm2 : Nat → Int32) (ct2 : Nat → Int32) (tk : Nat) (ss : Nat → Int32) (ww : Nat → Int32) (rg : Nat → Nat) (cm : Nat → Nat) (kd : Nat → Int32) (sl : Nat → Nat) (pe : Nat) (cs : Nat) (ts : Nat) (dn : Int32) (co : Nat → Int32) (ky : Nat → Int32) (vl : Nat → Int64) (mk : Nat → Int32) (fs : Nat → Int32) (fl : Nat → Nat) (fv : Nat → Int64) (th : Nat) (fz : Nat) (th9 : Int32) (wk : Bool) (ro : Int32) (lo : Nat) (ne : Nat) (di : Nat) (ta : Bool) (ce : Nat) (fo : Nat) (bt : Nat) (hs : Nat → Bool) (tr : Nat → Bool) (vw : Nat → Int64) (kw : Nat → Bool) (kv : Nat → Int64) (fr : Nat → Bool) (Dg : Nat → Int32) (Sm : Nat → Int32) (rd : Nat → Int32) (lk : Nat → Nat) (nx : Nat → Nat) (df : Nat → Int32) (Co : Nat → Int32) (Ky : Nat → Int32) (Vl : Nat → Int64) (Mk : Nat → Int32) (Fs : Nat → Int32) (Fl : Nat → Nat) (Fv : Nat → Int64) (tx : Nat → Int32) (wo : Nat → Int32) (ch : Nat → Int32) (wr : Nat → Int32) (ol : Nat → Int32) (ov : Nat → Int64) : Prop :=
  G p l e room_1 s m #[Value.ref b] below meth c g (fun q => s.heap.size ≤ q) 8 (57 + j) (14572 + 6 * j) (lw_Z below #[Value.ref b] s) pc [(4, .int (nI i)), (3, .ref q), (2, .ref (mm 0)), (1, .ref (a 0)), (0, .ref b)] [] (lwW g a z o h y t mm q sz pr va ho dg sm ct sz2 pr2 va2 ho2 dg2 sm2 ct2 tk ss ww rg cm kd sl pe cs ts dn co ky vl mk fs fl fv th fz th9 wk ro lo ne di ta ce fo bt hs tr vw kw kv fr Dg Sm rd lk nx df Co Ky Vl Mk Fs Fl Fv tx wo ch wr ol ov)
/-- from the loop's head on, whatever the data, as long as class and reference lie beside each other -/
def lwN (p : Program) (l : Launch) (e : Env) (s : State) (m : MethodId) (below : List Frame) (meth : Method) (c : Code) (g : gE) (b : Nat) (a z o h y t mm : Nat → Nat) (q j i : Nat) : Prop :=
  ∀ (sz : Int32) (pr : Nat → Bool) (va : Nat → Int64) (ho : Nat → Bool) (dg : Nat → Int32) (sm : Nat → Int32) (ct : Nat → Int32) (sz2 : Int32) (pr2 : Nat → Bool) (va2 : Nat → Int64) (ho2 : Nat → Bool) (dg2 : Nat → Int32) (sm2 : Nat → Int32) (ct2 : Nat → Int32) (tk : Nat) (ss : Nat → Int32) (ww : Nat → Int32) (rg : Nat → Nat) (cm : Nat → Nat) (kd : Nat → Int32) (sl : Nat → Nat) (pe : Nat) (cs : Nat) (ts : Nat) (dn : Int32) (co : Nat → Int32) (ky : Nat → Int32) (vl : Nat → Int64) (mk : Nat → Int32) (fs : Nat → Int32) (fl : Nat → Nat) (fv : Nat → Int64) (th : Nat) (fz : Nat) (th9 : Int32) (wk : Bool) (ro : Int32) (lo : Nat) (ne : Nat) (di : Nat) (ta : Bool) (ce : Nat) (fo : Nat) (bt : Nat) (hs : Nat → Bool) (tr : Nat → Bool) (vw : Nat → Int64) (kw : Nat → Bool) (kv : Nat → Int64) (fr : Nat → Bool) (Dg : Nat → Int32) (Sm : Nat → Int32) (rd : Nat → Int32) (lk : Nat → Nat) (nx : Nat → Nat) (df : Nat → Int32) (Co : Nat → Int32) (Ky : Nat → Int32) (Vl : Nat → Int64) (Mk : Nat → Int32) (Fs : Nat → Int32) (Fl : Nat → Nat) (Fv : Nat → Int64) (tx : Nat → Int32) (wo : Nat → Int32) (ch : Nat → Int32) (wr : Nat → Int32) (ol : Nat → Int32) (ov : Nat → Int64), LR sz pr va ho dg sm ct sz2 pr2 va2 ho2 dg2 sm2 ct2 tk ss ww rg cm kd sl pe cs ts dn co ky vl mk fs fl fv th fz th9 wk ro lo ne di ta ce fo bt hs tr vw kw kv fr Dg Sm rd lk nx df Co Ky Vl Mk Fs Fl Fv tx wo ch wr ol ov → lwG p l e s m below meth c g b a z o h y t mm q j i 23 sz pr va ho dg sm ct sz2 pr2 va2 ho2 dg2 sm2 ct2 tk ss ww rg cm kd sl pe cs ts dn co ky vl mk fs fl fv th fz th9 wk ro lo ne di ta ce fo bt hs tr vw kw kv fr Dg Sm rd lk nx df Co Ky Vl Mk Fs Fl Fv tx wo ch wr ol ov
/-- what the law knows all along -/
abbrev lwK (p : Program) (l : Launch) (s : State) (m : MethodId) (meth : Method) (c : Code) (g : gE) (sa : Nat → Nat) (b Lx : Nat) (xs : Nat → Int32) : Prop :=
  gC p s m #[Value.ref b] meth c cL_law 8 RL wsL_lawT ret g (fun q => s.heap.size ≤ q) ∧ va_X b Lx xs s s.heap ∧ b < s.heap.size ∧ ¬ (fun q => s.heap.size ≤ q) b ∧ Lx ≤ 3072 ∧ gTH sa s ∧ l.stackTraces = false
theorem lw_room {j mc ms : Nat} (h : j < 512 ∧ mc ≤ 1 ∧ ms ≤ 6) : 57 + j + mc ≤ room_1.cells ∧ 14572 + 6 * j + ms ≤ room_1.slots := by
  show 57 + j + mc ≤ 1088 ∧ 14572 + 6 * j + ms ≤ 22806
  omega
theorem lw_roomT {j mc ms mc2 ms2 : Nat} (h : j < 512 ∧ mc ≤ 1 ∧ ms ≤ 6 ∧ mc2 ≤ 1 ∧ ms2 ≤ 6) : 57 + j + mc + mc2 ≤ room_1.cells ∧ 14572 + 6 * j + ms + ms2 ≤ room_1.slots := by
  show 57 + j + mc + mc2 ≤ 1088 ∧ 14572 + 6 * j + ms + ms2 ≤ 22806
  omega
/-- a row's place, on a side and in all -/
theorem up_p {α : Type} {sd n u : Nat} {f h : Nat → α} {x : α} (hu : 1 ≤ u) (hp : ∀ k, k < 256 → f k = h (256 * sd + k)) : ∀ k, k < 256 → va_up f (64 * n + u - 1) x k = va_up h (256 * sd + 64 * n + u - 1) x (256 * sd + k) := by
  intro k hk
  by_cases e : k = 64 * n + u - 1
  · rw [e, va_up_at, show 256 * sd + (64 * n + u - 1) = 256 * sd + 64 * n + u - 1 by omega, va_up_at]
  · rw [va_up_off _ _ e, va_up_off _ _ (by omega)]
    exact hp k hk
