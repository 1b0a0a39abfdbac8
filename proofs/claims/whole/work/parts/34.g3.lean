/-! rows of constructors -/
section GR4
variable {p : Program} {l : Launch} {e : Env} {R : Room} {s : State} {m : MethodId} {args : Array Value} {below : List Frame} {meth : Method} {c : Code}
variable {cc : ByteArray} {nL cells slots pc : Nat} {own : String} {Ts : List Cond} {ret : Option FieldType} {g : gE} {A : Nat → Prop} {Q : State → Prop} {L : List (Nat × Value)} {st : List Value} {w : va_W}
theorem g_objInit {idx a : Nat} (C : gC p s m args meth c cc nL own Ts ret g A) (hlink : Cond.methodLink own idx Lib.objectInit ∈ Ts) (hinst : Cond.instanceMethod Lib.objectInit ∈ Ts) (hcode : Cond.code Lib.objectInit ⟨#[0xb1]⟩ 1 none ∈ Ts) (hd : decode cc pc = .ok (.invokespecial idx, 3)) (hframes : 1 ≤ R.frames) (hlocals : (st.map fun v => v.category).sum + 12 ≤ R.locals)
    (k : G p l e R s m args below meth c g A nL cells slots Q (pc + 3) L st w) : G p l e R s m args below meth c g A nL cells slots Q pc L (.ref a :: st) w := fun H locs ls hP hD hS hl =>
  W.objInit C.1 C.2.1 C.2.2.2.1 (C.2.2.2.2.1 _ hlink) (C.2.2.2.2.1 _ hinst) (C.2.2.2.2.1 _ hcode) rfl (by rw [C.2.2.1]; exact hl.1) rfl hd hframes (by show 2 * 0 + _ + 12 ≤ _; omega) (k H locs ls hP hD hS hl)
theorem g_newI {N : Nat} (C : gC p s m args meth c cc nL own Ts ret g A) (hm : Cond.arrayClass .int ∈ Ts) (hN : N < 2 ^ 31) (hbytes : N * componentBytes .int ≤ 536870912) (hcells : cells + 1 ≤ R.cells) (hslots : slots + N ≤ R.slots) (hd : decode cc pc = .ok (.newarray .int, 2))
    (kk : ∀ q : Nat, G p l e R s m args below meth c g A nL (cells + 1) (slots + N) Q (pc + 2) L (.ref q :: st) (w ++ [(q, gI g N (fun _ => 0))])) : G p l e R s m args below meth c g A nL cells slots Q pc L (.int (nI N) :: st) w := by
  intro H locs ls hP hD hS hl
  refine va_newa (D := g.1) (atype := .int) (ty := .int) (N' := N) (a0 := (N, .inl (fun _ => 0))) C.1 C.2.1 (C.2.2.2.2.1 _ hm) rfl C.2.2.2.2.2.2.2.2.1 hP hD hS C.2.2.2.2.2.2.2.1 (fun cA => rfl) (nI_pos hN) (nI_clamp hN) hbytes hcells hslots hd (fun q cA H1 hK1 hP1 hD1 hS1 => ?_)
  have e1 : s.vm.findClass ("[" ++ FieldType.int.toString) = some cA := (hK1.2 3 (cA, .int) rfl).2
  have e2 : s.vm.findClass ("[" ++ FieldType.int.toString) = some g.2.1.1 := (C.2.2.2.2.2.2.2.2.1.2 0 _ rfl).2
  obtain rfl : cA = g.2.1.1 := Option.some.inj (e1.symm.trans e2)
  exact kk q H1 locs ls hP1 hD1 hS1 hl
theorem g_newJ {N : Nat} (C : gC p s m args meth c cc nL own Ts ret g A) (hm : Cond.arrayClass .long ∈ Ts) (hN : N < 2 ^ 31) (hbytes : N * componentBytes .long ≤ 536870912) (hcells : cells + 1 ≤ R.cells) (hslots : slots + N ≤ R.slots) (hd : decode cc pc = .ok (.newarray .long, 2))
    (kk : ∀ q : Nat, G p l e R s m args below meth c g A nL (cells + 1) (slots + N) Q (pc + 2) L (.ref q :: st) (w ++ [(q, gJ g N (fun _ => 0))])) : G p l e R s m args below meth c g A nL cells slots Q pc L (.int (nI N) :: st) w := by
  intro H locs ls hP hD hS hl
  refine va_newa (D := g.1) (atype := .long) (ty := .long) (N' := N) (a0 := (N, .inr (.inl (fun _ => 0)))) C.1 C.2.1 (C.2.2.2.2.1 _ hm) rfl C.2.2.2.2.2.2.2.2.1 hP hD hS C.2.2.2.2.2.2.2.1 (fun cA => rfl) (nI_pos hN) (nI_clamp hN) hbytes hcells hslots hd (fun q cA H1 hK1 hP1 hD1 hS1 => ?_)
  have e1 : s.vm.findClass ("[" ++ FieldType.long.toString) = some cA := (hK1.2 3 (cA, .long) rfl).2
  have e2 : s.vm.findClass ("[" ++ FieldType.long.toString) = some g.2.1.2.1 := (C.2.2.2.2.2.2.2.2.1.2 1 _ rfl).2
  obtain rfl : cA = g.2.1.2.1 := Option.some.inj (e1.symm.trans e2)
  exact kk q H1 locs ls hP1 hD1 hS1 hl
theorem g_newZ {N : Nat} (C : gC p s m args meth c cc nL own Ts ret g A) (hm : Cond.arrayClass .boolean ∈ Ts) (hN : N < 2 ^ 31) (hbytes : N * componentBytes .boolean ≤ 536870912) (hcells : cells + 1 ≤ R.cells) (hslots : slots + N ≤ R.slots) (hd : decode cc pc = .ok (.newarray .boolean, 2))
    (kk : ∀ q : Nat, G p l e R s m args below meth c g A nL (cells + 1) (slots + N) Q (pc + 2) L (.ref q :: st) (w ++ [(q, gZ g N (fun _ => false))])) : G p l e R s m args below meth c g A nL cells slots Q pc L (.int (nI N) :: st) w := by
  intro H locs ls hP hD hS hl
  refine va_newa (D := g.1) (atype := .boolean) (ty := .boolean) (N' := N) (a0 := (N, .inl (fun _ => bI false))) C.1 C.2.1 (C.2.2.2.2.1 _ hm) rfl C.2.2.2.2.2.2.2.2.1 hP hD hS C.2.2.2.2.2.2.2.1 (fun cA => rfl) (nI_pos hN) (nI_clamp hN) hbytes hcells hslots hd (fun q cA H1 hK1 hP1 hD1 hS1 => ?_)
  have e1 : s.vm.findClass ("[" ++ FieldType.boolean.toString) = some cA := (hK1.2 3 (cA, .boolean) rfl).2
  have e2 : s.vm.findClass ("[" ++ FieldType.boolean.toString) = some g.2.1.2.2 := (C.2.2.2.2.2.2.2.2.1.2 2 _ rfl).2
  obtain rfl : cA = g.2.1.2.2 := Option.some.inj (e1.symm.trans e2)
  exact kk q H1 locs ls hP1 hD1 hS1 hl
theorem g_new {Cn : String} {T : u_T} {N ci index : Nat} (C : gC p s m args meth c cc nL own Ts ret g A) (hin : ∀ w ∈ u_ws Cn T N, w ∈ Ts) (ty : Nat → FieldType) (hty : ∀ k, k < N → parseFieldDescriptor (T k).2.2.1 = some (ty k)) (hcl : Cond.classLink own index Cn ∈ Ts) (hinst : Cond.instantiable Cn N ∈ Ts) (hini : Cond.initialized Cn ∈ Ts) (hc : vwCl[ci]? = some (Cn, T, N)) {fs : List Value} (hfs : ∀ j, j < N → defaultValue (ty j) = vp_V fs j) (hcells : cells + 1 ≤ R.cells) (hslots : slots + N ≤ R.slots) (hd : decode cc pc = .ok (.new index, 3))
    (kk : ∀ q : Nat, G p l e R s m args below meth c g A nL (cells + 1) (slots + N) Q (pc + 3) L (.ref q :: st) (w ++ [(q, .inr (ci, fs))])) : G p l e R s m args below meth c g A nL cells slots Q pc L st w := fun H locs ls hP hD hS hl =>
  va_new (D := g.1) (ci := ci) (fs := fs) C.1 C.2.1 C.2.2.2.2.1 hin ty hty C.2.2.2.1 (C.2.2.2.2.1 _ hcl) (C.2.2.2.2.1 _ hinst) (C.2.2.2.2.1 _ hini) C.2.2.2.2.2.2.2.2.1 hP hD hS C.2.2.2.2.2.2.2.1 hc hfs hcells hslots hd (fun q H1 hP1 hD1 hS1 => kk q H1 locs ls hP1 hD1 hS1 hl)
end GR4
