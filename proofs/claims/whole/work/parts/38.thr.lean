/-! throws of the class, and their catching in the law's helpers -/
def gRE : List String := ["java/lang/RuntimeException", "java/lang/Exception"]
def gThr4 : List (Nat × String × List String) := [(48, "java/lang/IllegalArgumentException", gRE), (103, "java/util/NoSuchElementException", gRE), (114, "java/lang/IllegalStateException", gRE), (171, "java/lang/ArrayIndexOutOfBoundsException", "java/lang/IndexOutOfBoundsException" :: gRE)]
def gThrW : List Cond := gThr4.flatMap (fun q => (vx_atS RX4 q.1 q.2.1 q.2.2).filter (fun w => !goodWord w))
def isCD : Cond → Bool
  | .castable .. => true
  | .declares .. => true
  | _ => false
theorem gThrW_cd : gThrW.all isCD = true := by decide +kernel
theorem gThrW_ot : gThrW.all (fun w => w.onTables) = true := by decide +kernel
def gStr : List (Nat × String) := [(46, "no such side, node or number"), (101, "no such row"), (112, "no walk, or it has ended"), (130, "a table has 6 to 63 cells, in three equal parts"), (159, "no such row was found"), (169, "no such side, range or byte"), (175, "no such side or range")]
/-- what a throw needs beside its words: words that only hold as long as the tables do, the written texts -/
def gTH (sa : Nat → Nat) (U : State) : Prop := (∀ w ∈ gThrW, va_Nw w U) ∧ ∀ q ∈ gStr, vk_R RX4 q.1 q.2 (sa q.1) U
theorem gTH.warm {sa : Nat → Nat} {s U : State} (hW : s.WarmedH U.vm) (h : gTH sa s) : gTH sa U := by
  refine ⟨fun w hw => ?_, fun q hq => (h.2 q hq).warm hW⟩
  have h1 := List.all_eq_true.mp gThrW_cd w hw
  have h2 := h.1 w hw
  cases w <;> first | exact va_Nw.warmC hW h2 | exact va_Nw.warmD hW h2 | exact absurd h1 (by simp [isCD])
theorem gTH.same {sa : Nat → Nat} {s U : State} (hv : s.vm = U.vm) (h : gTH sa s) : gTH sa U :=
  ⟨fun w hw => va_Nw.same (List.all_eq_true.mp gThrW_ot w hw) hv (h.1 w hw), fun q hq => (h.2 q hq).same hv.symm⟩
theorem gTH.use {sa : Nat → Nat} {s : State} (h : gTH sa s) {args : Array Value} : ∀ w ∈ gThrW, w.before args s = true := fun w hw => va_Nw.use (List.all_eq_true.mp gThrW_ot w hw) (h.1 w hw)
def kX (g : gE) (w0 : va_W) (sz : Nat) (cls : String) : String → State → State → Prop := fun E st t => E = cls ∧ va_P g.1 vwCl w0 t.heap ∧ va_F (va_A w0 sz) st t
def kPT (g : gE) (sa : Nat → Nat) (av : List Value) (w0 : va_W) (sz : Nat) : Array Value → State → Prop := fun a U => kP g av w0 sz a U ∧ gTH sa U
theorem kPT_blind {g : gE} {sa : Nat → Nat} {av : List Value} {w0 : va_W} {sz : Nat} : FrameBlind (kPT g sa av w0 sz) := fun a U gg mk h => ⟨kP_blind a U gg mk h.1, gTH.same (s := U) (U := U.calling gg mk a) rfl h.2⟩
/-- the contract of a method that throws cls, and changes none of its cells -/
def Kx (l : Launch) (g : gE) (sa : Nat → Nat) (y : MethodName) (ws : List Cond) (fr lo mc ms : Nat) (av : List Value) (w0 : va_W) (cls : String) : Prop :=
  ∀ sz : Nat, vx_Met l y ws { frames := fr, cells := mc, slots := ms, locals := lo } (kPT g sa av w0 sz) (fun _ _ _ _ => False) (kX g w0 sz cls) mc ms (va_A w0 sz)
/-- the contract of a method that catches -/
def KtT (l : Launch) (g : gE) (sa : Nat → Nat) (y : MethodName) (ws : List Cond) (fr lo mc ms : Nat) (av : List Value) (w0 : va_W) (post : Option Value → va_W → Prop) : Prop :=
  ∀ sz : Nat, Met l y ws { frames := fr, cells := mc, slots := ms, locals := lo } (kPT g sa av w0 sz) (kQ g w0 sz post) mc ms (va_A w0 sz)
theorem g_enterX {l : Launch} {g : gE} {sa : Nat → Nat} {y : MethodName} {ws ws' : List Cond} {fr lo mc ms maxL : Nat} {av : List Value} {w0 : va_W} {cls : String} {cc : ByteArray} {ret : Option FieldType} {own : String} {L : List (Nat × Value)}
    (hy : plainName y.cls = true) (hown : y.cls = own) (hw : ws = Cond.code y cc maxL ret :: ws') (hlen : (lg_sl av).length ≤ maxL) (hL : lv_args 0 av = L)
    (body : ∀ (p : Program) (e : Env) (s : State) (m : MethodId) (args : Array Value) (below : List Frame) (meth : Method) (c : Code), gC p s m args meth c cc maxL own ws ret g (va_A w0 s.heap.size) → (∀ x ∈ c.exceptionTable.toList, False) → gTH sa s →
      G p l e { frames := fr, cells := mc, slots := ms, locals := lo } s m args below meth c g (va_A w0 s.heap.size) maxL 0 0 (vx_MQ below (fun _ _ _ _ => False) (kX g w0 s.heap.size cls) args s mc ms (va_A w0 s.heap.size)) 0 L [] w0) : Kx l g sa y ws fr lo mc ms av w0 cls := by
  intro sz
  refine vx_ofW (cc := cc) (maxL := maxL) (ret := ret) hy hw ?_
  intro p e s m args below meth c s₁ B hml htab hv
  obtain ⟨⟨rfl, hsz, hP, hD0, hE⟩, hT⟩ := hv
  subst hsz
  have hts := atoms_spec (ws := ws) B.pre
  have ho : s.vm.findClass own = some m.cls := hown ▸ findClass_of_methodNamed B.named
  have hl := lv_entry av (n := maxL) hlen
  rw [hL] at hl
  rw [lg_entry_eq]
  exact body p e s m av.toArray below meth c ⟨B.exec, B.bytes, hml, ho, hts, B.returns, B.notSynchronized, fun q h => Or.inr h, hE⟩ htab hT s.heap [] _ hP hD0.self va_S.rf hl
theorem g_enterW {l : Launch} {g : gE} {y : MethodName} {ws ws' : List Cond} {fr lo mc ms maxL : Nat} {av : List Value} {w0 : va_W} {post : Option Value → va_W → Prop} {cc : ByteArray} {ret : Option FieldType} {hh : List (Nat × Nat × Nat × Nat)} {own : String} {L : List (Nat × Value)}
    (hy : plainName y.cls = true) (hown : y.cls = own) (hw : ws = Cond.codeWith y cc maxL ret hh :: ws') (hlen : (lg_sl av).length ≤ maxL) (hL : lv_args 0 av = L)
    (body : ∀ (p : Program) (e : Env) (s : State) (m : MethodId) (args : Array Value) (below : List Frame) (meth : Method) (c : Code), gC p s m args meth c cc maxL own ws ret g (va_A w0 s.heap.size) →
      G p l e { frames := fr, cells := mc, slots := ms, locals := lo } s m args below meth c g (va_A w0 s.heap.size) maxL 0 0 (MQ below (kQ g w0 s.heap.size post) args s mc ms (va_A w0 s.heap.size)) 0 L [] w0) : Kt l g y ws fr lo mc ms av w0 post := by
  intro sz
  refine va_MetW (cc := cc) (maxL := maxL) (ret := ret) (hh := hh) hy hw ?_
  intro p e s m args below meth c s₁ B hml hv
  obtain ⟨rfl, hsz, hP, hD0, hE⟩ := hv
  subst hsz
  have hts := atoms_spec (ws := ws) B.pre
  have ho : s.vm.findClass own = some m.cls := hown ▸ findClass_of_methodNamed B.named
  have hl := lv_entry av (n := maxL) hlen
  rw [hL] at hl
  rw [lg_entry_eq]
  exact body p e s m av.toArray below meth c ⟨B.exec, B.bytes, hml, ho, hts, B.returns, B.notSynchronized, fun q h => Or.inr h, hE⟩ s.heap [] _ hP hD0.self va_S.rf hl
theorem g_enterT {l : Launch} {g : gE} {sa : Nat → Nat} {y : MethodName} {ws ws' : List Cond} {fr lo mc ms maxL : Nat} {av : List Value} {w0 : va_W} {post : Option Value → va_W → Prop} {cc : ByteArray} {ret : Option FieldType} {hh : List (Nat × Nat × Nat × Nat)} {own : String} {L : List (Nat × Value)}
    (hy : plainName y.cls = true) (hown : y.cls = own) (hw : ws = Cond.codeWith y cc maxL ret hh :: ws') (hlen : (lg_sl av).length ≤ maxL) (hL : lv_args 0 av = L)
    (body : ∀ (p : Program) (e : Env) (s : State) (m : MethodId) (args : Array Value) (below : List Frame) (meth : Method) (c : Code), gC p s m args meth c cc maxL own ws ret g (va_A w0 s.heap.size) → c.exceptionTable.toList = tableOf hh → gTH sa s →
      G p l e { frames := fr, cells := mc, slots := ms, locals := lo } s m args below meth c g (va_A w0 s.heap.size) maxL 0 0 (MQ below (kQ g w0 s.heap.size post) args s mc ms (va_A w0 s.heap.size)) 0 L [] w0) : KtT l g sa y ws fr lo mc ms av w0 post := by
  intro sz
  refine va_MetW (cc := cc) (maxL := maxL) (ret := ret) (hh := hh) hy hw ?_
  intro p e s m args below meth c s₁ B hml hv
  obtain ⟨⟨rfl, hsz, hP, hD0, hE⟩, hT⟩ := hv
  subst hsz
  have hts := atoms_spec (ws := ws) B.pre
  have ho : s.vm.findClass own = some m.cls := hown ▸ findClass_of_methodNamed B.named
  have htab := vx_table (x := y) B (hts (Cond.codeWith y cc maxL ret hh) (by rw [hw]; exact List.mem_cons_self))
  have hl := lv_entry av (n := maxL) hlen
  rw [hL] at hl
  rw [lg_entry_eq]
  exact body p e s m av.toArray below meth c ⟨B.exec, B.bytes, hml, ho, hts, B.returns, B.notSynchronized, fun q h => Or.inr h, hE⟩ htab hT s.heap [] _ hP hD0.self va_S.rf hl
section GR5
variable {p : Program} {l : Launch} {e : Env} {R : Room} {s : State} {m : MethodId} {args : Array Value} {below : List Frame} {meth : Method} {c : Code}
variable {cc : ByteArray} {nL cells slots pc : Nat} {own : String} {Ts : List Cond} {ret : Option FieldType} {g : gE} {A : Nat → Prop} {Q : State → Prop} {L : List (Nat × Value)} {st : List Value} {w : va_W}
theorem g_throw {cls text : String} {names : List String} {ik is ic sa sz mc ms : Nat} {w0 : va_W} {Qc : Array Value → State → Outcome → State → Prop}
    (C : gC p s m args meth c cc nL own Ts ret g (va_A w0 sz)) (hst : l.stackTraces = false) (htab : ∀ x ∈ c.exceptionTable.toList, False) (hcls : Bundle.fit cls = true) (hnames : ∀ n ∈ names, Bundle.fit n = true) (hk : Cond.classLink own ik cls ∈ Ts) (hini : Cond.initialized cls ∈ Ts) (hstr : vk_R own is text sa s) (hat : ∀ w ∈ vx_atS own ic cls names, w.before args s = true)
    (hgood : ∀ w ∈ Cond.classLink own ik cls :: Cond.initialized cls :: vx_atS own ic cls names, vx_ot w = true) (d0 : decode cc pc = .ok (.new ik, 3)) (d3 : decode cc (pc + 3) = .ok (.dup, 1)) (d4 : decode cc (pc + 4) = .ok (.ldc is, 2)) (d6 : decode cc (pc + 6) = .ok (.invokespecial ic, 3)) (d9 : decode cc (pc + 9) = .ok (.athrow, 1))
    (hRframes : names.length + 3 < R.frames) (hRlocals : (st.map fun v => v.category).sum + (13 * (names.length + 1) + 43) ≤ R.locals) (hRcells : cells + 1 ≤ R.cells) (hRslots : slots + 6 ≤ R.slots) (hc : cells + 1 ≤ mc) (hs : slots + 6 ≤ ms) :
    G p l e R s m args below meth c g (va_A w0 sz) nL cells slots (vx_MQ below Qc (kX g w0 sz cls) args s mc ms (va_A w0 sz)) pc L st w0 := by
  intro H locs ls hP hD hS hl
  refine vx_throwS (A := va_A w0 sz) C.1 C.2.1 hst C.2.2.2.1 hcls hnames (C.2.2.2.2.1 _ hk) (C.2.2.2.2.1 _ hini) hstr hat hgood C.2.2.2.2.2.2.2.2.2.2.2.2.2.1 C.2.2.2.2.2.2.2.2.2.2.2.2.2.2.1 hS (by rw [C.2.2.1]; exact hl.1) d0 d3 d4 d6 d9 (fun x hx => (htab x hx).elim) hRframes hRlocals hRcells hRslots C.2.2.2.2.2.2.1 (fun t hA hz hq => ⟨rfl, ?_, ?_, ?_⟩) hS.2.2 hc hs
  · exact fun k q hk => (hP k q hk).kept (hq q.1 (hP k q hk).lt)
  · exact Nat.le_trans hS.1 hz
  · intro q h1 h2
    rw [hq q (Nat.lt_of_lt_of_le h1 hS.1)]
    exact hS.2.1 q h1 h2
theorem g_caught {y : MethodName} {ws : List Cond} {bytes : ByteArray} {ret9 : Option FieldType} {fr lo mc ms n index maxL hpc ct : Nat} {As rest st0 : List Value} {wc wr w2 : va_W} {Cn cls : String} {b : Nat} {sa : Nat → Nat} {a0 a1 : Nat}
    (C : gC p s m args meth c cc nL own Ts ret g A) (hT : gTH sa s) (M : Kx l g sa y ws fr lo mc ms (.ref b :: As) wc cls) (cw : CallW R s args own Cn index y bytes maxL ret9 ws { frames := fr, cells := mc, slots := ms, locals := lo } mc ms n) (q0 : Nat) {ci : Nat} {fs : List Value} {vq : vw_C} (he : w[q0]? = some (b, .inr (ci, fs))) (hc : vwCl[ci]? = some vq) (hcn : vq.1 = Cn)
    (isC isR : List Nat) (hC : isC.map (fun i => w[i]?) = wc.map some) (hC2 : isC.filterMap (fun i => w[i]?) = wc) (hR : isR.map (fun i => w[i]?) = wr.map some) (hnC : va_nd isC = true) (hnR : va_nd isR = true) (hdis : ∀ i ∈ isR, i ∉ isC) (hlen : As.length = n) (hst : st0 = As.reverse ++ .ref b :: rest) (hcat : (rest.map fun v => v.category).sum ≤ 8) (hd : decode cc pc = .ok (.invokevirtual index, 3)) (hf : cells + mc ≤ R.cells ∧ slots + ms ≤ R.slots)
    (htab : c.exceptionTable.toList = [⟨a0, a1, hpc, ct⟩]) (hcov : covers ⟨a0, a1, hpc, ct⟩ pc = true) (hct : ct ≠ 0) (hlink : Cond.classLink own ct cls ∈ Ts) (hcast : Cond.castable cls cls ∈ gThrW) (hw2 : wr ++ wc = w2)
    (kk : ∀ q : Nat, G p l e R s m args below meth c g A nL (cells + mc) (slots + ms) Q hpc L [.ref q] w2) : G p l e R s m args below meth c g A nL cells slots Q pc L st0 w := by
  subst hst
  subst hw2
  intro H locs ls hP hD hS hl T hT9 X
  have hFc := va_free (wc := wc) hD hS C.2.2.2.2.2.2.2.1 isC hC
  have hrec := va_recv C.2.2.2.2.2.2.2.2.1 hP hc he
  rw [hcn] at hrec
  have hrun := vx_runV (p := p) (l := l) (e := e) (below := below) (meth := meth) (locs := locs) (cells := cells) (slots := slots) (g := F0 m pc ls (As.reverse ++ .ref b :: rest)) (rest := rest) ⟨C.1, C.2.1, C.2.2.1, C.2.2.2.1, C.2.2.2.2.1⟩ (M H.size) cw ⟨kPT_blind, hrec, fun U hU hW => ⟨g_pre C isC hC hC2 hnC hP hD hS U hU hW, hT.warm hW⟩⟩ rfl hlen hl.1 rfl (lv_room hcat) hd hf
  rcases hrun T hT9 X with ⟨v, st₀, t, T', L9, h0, X', hL9, e1, e2, hq, st9⟩ | ⟨q, st₀, t, T', L9, E, ce, h0, X', hL9, e1, e2, ⟨rfl, hP1, hz, hk⟩, hce, hcv, hcl, st9⟩
  · exact hq.elim
  · rw [h0] at hz hk
    rw [← e1] at hz hk hP1 hce
    have hS1 : va_S A s.heap T'.heap (locs ++ L9) := ⟨Nat.le_trans hS.1 hz, fun q h1 h2 => by rw [hk q (Nat.lt_of_lt_of_le h1 hS.1) (fun z => h2 (hFc q z))]; exact hS.2.1 q h1 h2, fun q hq => by
        rcases List.mem_append.mp hq with h | h
        · exact hS.2.2 q h
        · exact hFc _ (hL9 q h)⟩
    obtain ⟨hP2, hD2⟩ := va_join hP hD isC isR hC hR hnR hdis hk hFc hP1 ((hD.sub isC hnC hC).self)
    have hW := kk q T'.heap (locs ++ L9) ls hP2 hD2 hS1 hl
    obtain ⟨t2, a1', b1⟩ := vx_catch (rest := rest) C.2.2.2.1 [] ⟨a0, a1, hpc, ct⟩ [] htab (fun z hz => by cases hz) hcov hct (C.2.2.2.2.1 _ hlink) (hT.use _ hcast) hce hcv hcl hW T' rfl X'
    exact ⟨t2, st9.trans a1', b1⟩
end GR5
theorem goodIn_up {a a' b : List Cond} (h : GoodIn a b) (hm : ∀ w ∈ a, w ∈ a') : GoodIn a' b := fun w hw => ⟨hm w (h w hw).1, (h w hw).2⟩
def atIOB : List Cond := (vx_atS RX4 171 "java/lang/ArrayIndexOutOfBoundsException" ["java/lang/IndexOutOfBoundsException", "java/lang/RuntimeException", "java/lang/Exception"]).filter goodWord
def wsX4_digestT : List Cond := .code yX4_digest cX4_digest 4 (some .int) :: (wsX4_digest.tail ++ atIOB)
def wsX4_sumT : List Cond := .code yX4_sum cX4_sum 3 (some .int) :: (wsX4_sum.tail ++ atIOB)
theorem inX4_digestT : ∀ w ∈ wsX4_digest, w ∈ wsX4_digestT := fun w h => by
  have h' : w ∈ Cond.code yX4_digest cX4_digest 4 (some .int) :: wsX4_digest.tail := h
  rcases List.mem_cons.mp h' with h' | h'
  · rw [h']; exact List.mem_cons_self
  · exact List.mem_cons_of_mem _ (List.mem_append_left _ h')
theorem inX4_sumT : ∀ w ∈ wsX4_sum, w ∈ wsX4_sumT := fun w h => by
  have h' : w ∈ Cond.code yX4_sum cX4_sum 3 (some .int) :: wsX4_sum.tail := h
  rcases List.mem_cons.mp h' with h' | h'
  · rw [h']; exact List.mem_cons_self
  · exact List.mem_cons_of_mem _ (List.mem_append_left _ h')
