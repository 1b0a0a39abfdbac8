/-! the law: its end and its loop -/
/-- the law's own end, with 1 on the stack, nothing written that was there before, its room as the claim has it -/
theorem lw_ret {p : Program} {l : Launch} {e : Env} {s : State} {m : MethodId} {below : List Frame} {meth : Method} {c : Code} {b : Nat} (hx : p.tables.exec = Jvm.exec) (hb : c.code = code) (hr : meth.sig.returnType = ret) (hlocks : meth.locks = false) {pc : Nat} {H : Heap} {ls : Array Slot} (hdg : decode code pc = .ok (.ireturn, 1)) : W p l e room_1 s m #[Value.ref b] below meth c H [] 1088 22806 (lw_Z below #[Value.ref b] s) (F0 m pc ls [.int 1]) := by
  intro T hT X
  obtain ⟨fs, hret, hrun, hended, hW, hframe⟩ := X.leave (v := some (.int 1)) (hlocks := hlocks) (fun h => by rw [hr] at h; cases h)
  have hmeth' : T.vm.method? m = some meth := X.method'
  refine ⟨T.setFrames fs, ?_, .returned (some (.int 1)), hrun, hended, rfl, ⟨_, rfl⟩, hW, hframe⟩
  jvm_step X.here [X.here.top, hx, hb, hdg, hmeth', hr, ret, narrow_b1]
  (try refine ⟨rfl, ?_⟩); (try refine ⟨rfl, ?_⟩)
  first | (intro acts; rw [hret _ acts rfl rfl rfl]) | rw [hret _ _ rfl rfl rfl]
  exact Steps.refl _
set_option maxHeartbeats 4000000 in
theorem lw_out {p : Program} {l : Launch} {e : Env} {s : State} {m : MethodId} {below : List Frame} {meth : Method} {c : Code} {g : gE} {sa : Nat → Nat} {b Lx : Nat} {xs : Nat → Int32} {a z o h y t mm : Nat → Nat} {q j : Nat} {sz : Int32} {pr : Nat → Bool} {va : Nat → Int64} {ho : Nat → Bool} {dg : Nat → Int32} {sm : Nat → Int32} {ct : Nat → Int32} {sz2 : Int32} {pr2 : Nat → Bool} {va2 : Nat → Int64} {ho2 : Nat → Bool} {dg2 : Nat → Int32} {sm2 : Nat → Int32} {ct2 : Nat → Int32} {tk : Nat} {ss : Nat → Int32} {ww : Nat → Int32} {rg : Nat → Nat} {cm : Nat → Nat} {kd : Nat → Int32} {sl : Nat → Nat} {pe : Nat} {cs : Nat} {ts : Nat} {dn : Int32} {co : Nat → Int32} {ky : Nat → Int32} {vl : Nat → Int64} {mk : Nat → Int32} {fs : Nat → Int32} {fl : Nat → Nat} {fv : Nat → Int64} {th : Nat} {fz : Nat} {th9 : Int32} {wk : Bool} {ro : Int32} {lo : Nat} {ne : Nat} {di : Nat} {ta : Bool} {ce : Nat} {fo : Nat} {bt : Nat} {hs : Nat → Bool} {tr : Nat → Bool} {vw : Nat → Int64} {kw : Nat → Bool} {kv : Nat → Int64} {fr : Nat → Bool} {Dg : Nat → Int32} {Sm : Nat → Int32} {rd : Nat → Int32} {lk : Nat → Nat} {nx : Nat → Nat} {df : Nat → Int32} {Co : Nat → Int32} {Ky : Nat → Int32} {Vl : Nat → Int64} {Mk : Nat → Int32} {Fs : Nat → Int32} {Fl : Nat → Nat} {Fv : Nat → Int64} {tx : Nat → Int32} {wo : Nat → Int32} {ch : Nat → Int32} {wr : Nat → Int32} {ol : Nat → Int32} {ov : Nat → Int64} (K : lwK p l s m meth c g sa b Lx xs) (h1 : 6 * j ≤ Lx) (h6 : ¬ 6 * j + 6 ≤ Lx) : lwG p l e s m below meth c g b a z o h y t mm q j (6 * j) 23 sz pr va ho dg sm ct sz2 pr2 va2 ho2 dg2 sm2 ct2 tk ss ww rg cm kd sl pe cs ts dn co ky vl mk fs fl fv th fz th9 wk ro lo ne di ta ce fo bt hs tr vw kw kv fr Dg Sm rd lk nx df Co Ky Vl Mk Fs Fl Fv tx wo ch wr ol ov := by
  obtain ⟨C, hX, hbl, hbA, hLx, hT, hst⟩ := K
  refine g_iload C dL_law_23 0 rfl ?_
  refine g_aload_n C dL_law_25 rfl 4 rfl ?_
  refine g_slen C hX hbl hbA dL_law_26 ?_
  refine g_bipush (v := nI 6) C dL_law_27 (by decide) ?_
  refine g_isub C dL_law_29 ?_
  have hc : nI Lx - nI 6 < nI (6 * j) := by
    rw [Int32.lt_iff_toInt_lt, pk_sub_toInt (by omega) (by omega), nI_toInt (by omega)]
    omega
  refine g_icmp_gt (tgt := 1045) C dL_law_30 (by decide) (fun c30 => ?_) (fun c30 => absurd hc c30)
  refine g_iconst (v := 1) C dL_law_1045 (by decide) ?_
  intro H9 locs ls hP hD hS hl
  exact va_forget (fun q9 hq9 => hS.2.2 q9 hq9) (W.widen (k := 1088) (n := 22806) (by omega) (by omega) (lw_ret C.1 C.2.1 C.2.2.2.2.2.1 C.2.2.2.2.2.2.1 dL_law_1046))
set_option maxHeartbeats 4000000 in
theorem lw_in {p : Program} {l : Launch} {e : Env} {s : State} {m : MethodId} {below : List Frame} {meth : Method} {c : Code} {g : gE} {sa : Nat → Nat} {b Lx : Nat} {xs : Nat → Int32} {a z o h y t mm : Nat → Nat} {q j : Nat} {sz : Int32} {pr : Nat → Bool} {va : Nat → Int64} {ho : Nat → Bool} {dg : Nat → Int32} {sm : Nat → Int32} {ct : Nat → Int32} {sz2 : Int32} {pr2 : Nat → Bool} {va2 : Nat → Int64} {ho2 : Nat → Bool} {dg2 : Nat → Int32} {sm2 : Nat → Int32} {ct2 : Nat → Int32} {tk : Nat} {ss : Nat → Int32} {ww : Nat → Int32} {rg : Nat → Nat} {cm : Nat → Nat} {kd : Nat → Int32} {sl : Nat → Nat} {pe : Nat} {cs : Nat} {ts : Nat} {dn : Int32} {co : Nat → Int32} {ky : Nat → Int32} {vl : Nat → Int64} {mk : Nat → Int32} {fs : Nat → Int32} {fl : Nat → Nat} {fv : Nat → Int64} {th : Nat} {fz : Nat} {th9 : Int32} {wk : Bool} {ro : Int32} {lo : Nat} {ne : Nat} {di : Nat} {ta : Bool} {ce : Nat} {fo : Nat} {bt : Nat} {hs : Nat → Bool} {tr : Nat → Bool} {vw : Nat → Int64} {kw : Nat → Bool} {kv : Nat → Int64} {fr : Nat → Bool} {Dg : Nat → Int32} {Sm : Nat → Int32} {rd : Nat → Int32} {lk : Nat → Nat} {nx : Nat → Nat} {df : Nat → Int32} {Co : Nat → Int32} {Ky : Nat → Int32} {Vl : Nat → Int64} {Mk : Nat → Int32} {Fs : Nat → Int32} {Fl : Nat → Nat} {Fv : Nat → Int64} {tx : Nat → Int32} {wo : Nat → Int32} {ch : Nat → Int32} {wr : Nat → Int32} {ol : Nat → Int32} {ov : Nat → Int64} (K : lwK p l s m meth c g sa b Lx xs) (h6 : 6 * j + 6 ≤ Lx) (H : LR sz pr va ho dg sm ct sz2 pr2 va2 ho2 dg2 sm2 ct2 tk ss ww rg cm kd sl pe cs ts dn co ky vl mk fs fl fv th fz th9 wk ro lo ne di ta ce fo bt hs tr vw kw kv fr Dg Sm rd lk nx df Co Ky Vl Mk Fs Fl Fv tx wo ch wr ol ov) (ih : lwN p l e s m below meth c g b a z o h y t mm q (j + 1) (6 * j + 6)) : lwG p l e s m below meth c g b a z o h y t mm q j (6 * j) 23 sz pr va ho dg sm ct sz2 pr2 va2 ho2 dg2 sm2 ct2 tk ss ww rg cm kd sl pe cs ts dn co ky vl mk fs fl fv th fz th9 wk ro lo ne di ta ce fo bt hs tr vw kw kv fr Dg Sm rd lk nx df Co Ky Vl Mk Fs Fl Fv tx wo ch wr ol ov := by
  obtain ⟨C, hX, hbl, hbA, hLx, hT, hst⟩ := id K
  refine g_iload C dL_law_23 0 rfl ?_
  refine g_aload_n C dL_law_25 rfl 4 rfl ?_
  refine g_slen C hX hbl hbA dL_law_26 ?_
  refine g_bipush (v := nI 6) C dL_law_27 (by decide) ?_
  refine g_isub C dL_law_29 ?_
  have hc : ¬ nI Lx - nI 6 < nI (6 * j) := by
    rw [Int32.lt_iff_toInt_lt, pk_sub_toInt (by omega) (by omega), nI_toInt (by omega)]
    omega
  refine g_icmp_gt (tgt := 1045) C dL_law_30 (by decide) (fun c30 => absurd c30 hc) (fun c30 => ?_)
  refine g_aload_n C dL_law_33 rfl 4 rfl ?_
  refine g_iload C dL_law_34 0 rfl ?_
  refine g_sld C hX hbl hbA (by omega) (by omega) dL_law_36 ?_
  refine g_bipush (v := nI 31) C dL_law_37 (by decide) ?_
  refine g_iand C dL_law_39 ?_
  rcases (show (Int32.toInt (xs (6 * j) &&& nI 31)) = 0 ∨ (Int32.toInt (xs (6 * j) &&& nI 31)) = 1 ∨ (Int32.toInt (xs (6 * j) &&& nI 31)) = 2 ∨ (Int32.toInt (xs (6 * j) &&& nI 31)) = 3 ∨ (Int32.toInt (xs (6 * j) &&& nI 31)) = 4 ∨ (Int32.toInt (xs (6 * j) &&& nI 31)) = 5 ∨ (Int32.toInt (xs (6 * j) &&& nI 31)) = 6 ∨ (Int32.toInt (xs (6 * j) &&& nI 31)) = 7 ∨ (Int32.toInt (xs (6 * j) &&& nI 31)) = 8 ∨ (Int32.toInt (xs (6 * j) &&& nI 31)) = 9 ∨ (Int32.toInt (xs (6 * j) &&& nI 31)) = 10 ∨ (Int32.toInt (xs (6 * j) &&& nI 31)) = 11 ∨ (Int32.toInt (xs (6 * j) &&& nI 31)) = 12 ∨ (Int32.toInt (xs (6 * j) &&& nI 31)) = 13 ∨ (Int32.toInt (xs (6 * j) &&& nI 31)) = 14 ∨ (Int32.toInt (xs (6 * j) &&& nI 31)) = 15 ∨ (Int32.toInt (xs (6 * j) &&& nI 31)) = 16 ∨ (Int32.toInt (xs (6 * j) &&& nI 31)) = 17 ∨ ((Int32.toInt (xs (6 * j) &&& nI 31)) < 0 ∨ 17 < (Int32.toInt (xs (6 * j) &&& nI 31))) by omega) with h40 | h40 | h40 | h40 | h40 | h40 | h40 | h40 | h40 | h40 | h40 | h40 | h40 | h40 | h40 | h40 | h40 | h40 | h40
  · refine g_tableIn (off := 88) (tgt := 128) C dL_law_40 (by rw [h40]; decide) (by rw [h40]; decide) (by rw [h40]; rfl) (by decide) ?_
    exact lc_row K h6 H ih
  · refine g_tableIn (off := 212) (tgt := 252) C dL_law_40 (by rw [h40]; decide) (by rw [h40]; decide) (by rw [h40]; rfl) (by decide) ?_
    exact lc_drop K h6 H ih
  · refine g_tableIn (off := 261) (tgt := 301) C dL_law_40 (by rw [h40]; decide) (by rw [h40]; decide) (by rw [h40]; rfl) (by decide) ?_
    exact lc_hold K h6 H ih
  · refine g_tableIn (off := 326) (tgt := 366) C dL_law_40 (by rw [h40]; decide) (by rw [h40]; decide) (by rw [h40]; rfl) (by decide) ?_
    exact lc_poke K h6 H ih
  · refine g_tableIn (off := 419) (tgt := 459) C dL_law_40 (by rw [h40]; decide) (by rw [h40]; decide) (by rw [h40]; rfl) (by decide) ?_
    exact lc_get K h6 H ih
  · refine g_tableIn (off := 498) (tgt := 538) C dL_law_40 (by rw [h40]; decide) (by rw [h40]; decide) (by rw [h40]; rfl) (by decide) ?_
    exact lc_begin K h6 H ih
  · refine g_tableIn (off := 509) (tgt := 549) C dL_law_40 (by rw [h40]; decide) (by rw [h40]; decide) (by rw [h40]; rfl) (by decide) ?_
    exact lc_round K h6 H ih
  · refine g_tableIn (off := 553) (tgt := 593) C dL_law_40 (by rw [h40]; decide) (by rw [h40]; decide) (by rw [h40]; rfl) (by decide) ?_
    exact lc_rounds K h6 H ih
  · refine g_tableIn (off := 566) (tgt := 606) C dL_law_40 (by rw [h40]; decide) (by rw [h40]; decide) (by rw [h40]; rfl) (by decide) ?_
    exact lc_differ K h6 H ih
  · refine g_tableIn (off := 603) (tgt := 643) C dL_law_40 (by rw [h40]; decide) (by rw [h40]; decide) (by rw [h40]; rfl) (by decide) ?_
    exact lc_equal K h6 H ih
  · refine g_tableIn (off := 616) (tgt := 656) C dL_law_40 (by rw [h40]; decide) (by rw [h40]; decide) (by rw [h40]; rfl) (by decide) ?_
    exact lc_table K h6 H ih
  · refine g_tableIn (off := 672) (tgt := 712) C dL_law_40 (by rw [h40]; decide) (by rw [h40]; decide) (by rw [h40]; rfl) (by decide) ?_
    exact lc_found K h6 H ih
  · refine g_tableIn (off := 709) (tgt := 749) C dL_law_40 (by rw [h40]; decide) (by rw [h40]; decide) (by rw [h40]; rfl) (by decide) ?_
    exact lc_fv K h6 H ih
  · refine g_tableIn (off := 764) (tgt := 804) C dL_law_40 (by rw [h40]; decide) (by rw [h40]; decide) (by rw [h40]; rfl) (by decide) ?_
    exact lc_digest K h6 H ih
  · refine g_tableIn (off := 844) (tgt := 884) C dL_law_40 (by rw [h40]; decide) (by rw [h40]; decide) (by rw [h40]; rfl) (by decide) ?_
    exact lc_sum K h6 H ih
  · refine g_tableIn (off := 912) (tgt := 952) C dL_law_40 (by rw [h40]; decide) (by rw [h40]; decide) (by rw [h40]; rfl) (by decide) ?_
    exact lc_broken K h6 H ih
  · refine g_tableIn (off := 937) (tgt := 977) C dL_law_40 (by rw [h40]; decide) (by rw [h40]; decide) (by rw [h40]; rfl) (by decide) ?_
    exact lc_anew K h6 H ih
  · refine g_tableIn (off := 962) (tgt := 1002) C dL_law_40 (by rw [h40]; decide) (by rw [h40]; decide) (by rw [h40]; rfl) (by decide) ?_
    exact lc_leaf K h6 H ih
  · refine g_tableOut (tgt := 1039) C dL_law_40 h40 (by decide) ?_
    exact lv_skip K h6 H ih
set_option maxHeartbeats 4000000 in
theorem law_loop {p : Program} {l : Launch} {e : Env} {s : State} {m : MethodId} {below : List Frame} {meth : Method} {c : Code} {g : gE} {sa : Nat → Nat} {b Lx : Nat} {xs : Nat → Int32} {a z o h y t mm : Nat → Nat} {q : Nat} (K : lwK p l s m meth c g sa b Lx xs) : ∀ (k j : Nat), 6 * j ≤ Lx → Lx - 6 * j ≤ k → lwN p l e s m below meth c g b a z o h y t mm q j (6 * j) := by
  intro k
  induction k with
  | zero =>
    intro j h1 h2 sz pr va ho dg sm ct sz2 pr2 va2 ho2 dg2 sm2 ct2 tk ss ww rg cm kd sl pe cs ts dn co ky vl mk fs fl fv th fz th9 wk ro lo ne di ta ce fo bt hs tr vw kw kv fr Dg Sm rd lk nx df Co Ky Vl Mk Fs Fl Fv tx wo ch wr ol ov H
    have h6 : ¬ 6 * j + 6 ≤ Lx := by omega
    exact lw_out K (by omega) h6
  | succ k IH =>
    intro j h1 h2 sz pr va ho dg sm ct sz2 pr2 va2 ho2 dg2 sm2 ct2 tk ss ww rg cm kd sl pe cs ts dn co ky vl mk fs fl fv th fz th9 wk ro lo ne di ta ce fo bt hs tr vw kw kv fr Dg Sm rd lk nx df Co Ky Vl Mk Fs Fl Fv tx wo ch wr ol ov H
    by_cases h6 : 6 * j + 6 ≤ Lx
    · have ih := IH (j + 1) (by omega) (by omega)
      rw [show 6 * (j + 1) = 6 * j + 6 by omega] at ih
      exact lw_in K h6 H ih
    · exact lw_out K h1 h6
