/-! broken: the leaves as the rows are now -/
theorem fpN_congr {P P' : Nat → Bool} {n : Nat} (h : ∀ q, q < n → P q = P' q) : fpN P n = fpN P' n := by
  rcases fpN_cases P' n with ⟨h1, h2⟩ | ⟨h1, h2, h3⟩
  · rw [h1]
    exact fpN_none (fun q hq => (h q hq).trans (h2 q hq))
  · exact fpN_some h1 (fun q hq => (h q (by omega)).trans (h3 q hq)) ((h _ h1).trans h2)
theorem btV_congr {P P' : Nat → Bool} (h : ∀ q, q < 32 → P q = P' q) : btV P = btV P' := by
  unfold btV
  rw [fpN_congr h]
/-- the text's length stays in bounds -/
theorem mkE_bt {kw hs : Nat → Bool} {kv : Nat → Int64} {rd : Nat → Int32} {sd r : Nat} {x : mkT} (h2 : r < 64) (h : x.2.2.1.1 ≤ 128) : (mkE kw hs kv rd sd r x).2.2.1.1 ≤ 128 := by
  unfold mkE
  split
  · exact h
  · split
    · show 8 ≤ 128; decide
    · have := mnN_le kw hs sd r (by omega) h2
      show 10 * mnN kw hs sd r ≤ 128
      omega
theorem rfL_bt {kw hs : Nat → Bool} {kv : Nat → Int64} {rd : Nat → Int32} {sd : Nat} {x : mkT} (h : x.2.2.1.1 ≤ 128) : ∀ i, (rfL kw hs kv rd sd x i).2.2.1.1 ≤ 128
  | 0 => h
  | i + 1 => mkE_bt (by omega) (rfL_bt h i)
theorem rfR_bt {kw hs : Nat → Bool} {kv : Nat → Int64} {rd : Nat → Int32} {sd : Nat} {x : rfT} (h : x.2.2.2.1.1 ≤ 128) : (rfR kw hs kv rd sd x).2.2.2.1.1 ≤ 128 := by
  show (cond (x.1 sd) x.2 (rfL kw hs kv rd sd x.2 63)).2.2.1.1 ≤ 128
  cases x.1 sd
  · exact rfL_bt h 63
  · exact h
theorem mlE_bt (kw hs : Nat → Bool) (kv : Nat → Int64) (rd : Nat → Int32) (sd r q : Nat) (dg tx : Nat → Int32) (b : bkT) : (mlE kw hs kv rd sd r q dg tx b).2.1.1 ≤ 128 := by
  have h1 := lfT_le kw hs kv sd (8 * (r - 32)) tx 8
  show (lfT kw hs kv sd (8 * (r - 32)) tx 8).1 + 1 + zN (lfT kw hs kv sd (8 * (r - 32)) tx 8).1 + 6 + 1 + 1 ≤ 128
  generalize (lfT kw hs kv sd (8 * (r - 32)) tx 8).1 = n at h1
  obtain ⟨a, b, -⟩ := zN_ok n
  omega
theorem zsp_in (sd : Nat) (dg : Nat → Int32) : ∀ i b, b < i → zsp sd dg i (2048 * sd + b) = nI 0
  | 0, b, h => by omega
  | i + 1, b, h => by
    show va_up (zsp sd dg i) (2048 * sd + i) (nI 0) (2048 * sd + b) = _
    by_cases q : b = i
    · rw [q, va_up_at]
    · rw [va_up_off _ _ (by omega)]
      exact zsp_in sd dg i b (by omega)
theorem zsp_off (sd : Nat) (dg : Nat → Int32) : ∀ i t, (t < 2048 * sd ∨ 2048 * sd + i ≤ t) → zsp sd dg i t = dg t
  | 0, t, h => rfl
  | i + 1, t, h => by
    show va_up (zsp sd dg i) (2048 * sd + i) (nI 0) t = _
    rw [va_up_off _ _ (by omega)]
    exact zsp_off sd dg i t (by omega)
theorem itA_off {tr hs : Nat → Bool} {vw : Nat → Int64} {rd : Nat → Int32} {sd r : Nat} {x : rfT} : (itA tr hs vw rd sd r x).1 = x.1 ∧ (∀ t, (t < 2048 * sd ∨ 2048 * sd + 32 ≤ t) → (itA tr hs vw rd sd r x).2.1 t = x.2.1 t) ∧ (itA tr hs vw rd sd r x).2.2.1 = x.2.2.1 := by
  unfold itA
  split
  · exact ⟨rfl, fun t ht => zsp_off sd _ 32 t ht, rfl⟩
  · refine ⟨rfl, fun t ht => ?_, rfl⟩
    show dgB (2048 * sd) (zsp sd x.2.1 32) _ 32 t = _
    rw [dgB_off _ _ _ 32 t ht]
    exact zsp_off sd _ 32 t ht
theorem itA_bt {tr hs : Nat → Bool} {vw : Nat → Int64} {rd : Nat → Int32} {sd r : Nat} {x : rfT} (h : x.2.2.2.1.1 ≤ 128) : (itA tr hs vw rd sd r x).2.2.2.1.1 ≤ 128 := by
  unfold itA
  split
  · exact h
  · exact mlE_bt tr hs vw rd sd r (2048 * sd) (zsp sd x.2.1 32) x.2.2.2.1.2 x.2.2.2.2
theorem itA_FR {tr hs : Nat → Bool} {vw : Nat → Int64} {rd : Nat → Int32} {sd sd' r : Nat} {x : rfT} {D S : Nat → Int32} (hs1 : sd < 2) (hs2 : sd' < 2) (h : FR sd' D S x) : FR sd' D S (itA tr hs vw rd sd r x) := by
  obtain ⟨a, b, c⟩ := itA_off (tr := tr) (hs := hs) (vw := vw) (rd := rd) (sd := sd) (r := r) (x := x)
  intro h0 r' h1 h2
  rw [a] at h0
  exact (h h0 r' h1 h2).keep (fun t ht => b _ (by omega)) (by rw [c])
/-- the spare place holds the digest of the leaf as its rows are -/
theorem itA_sp {tr hs : Nat → Bool} {vw : Nat → Int64} {rd : Nat → Int32} {sd r : Nat} {x : rfT} (h1 : 32 ≤ r) (h2 : r < 64) (hr : ∀ t, t < 64 → rd t = sha_K t) : ∀ b, b < 32 → (itA tr hs vw rd sd r x).2.1 (2048 * sd + b) = byt (lfD (qM tr hs sd) (fun k => vw (256 * sd + k)) (8 * (r - 32)) (b / 4)) (b % 4) := by
  intro b hb
  have hm := mnN_leaf tr hs sd h1
  have hle := cntR_le (qM tr hs sd) (8 * (r - 32)) 8
  unfold itA
  split
  · rename_i h0
    show zsp sd x.2.1 32 (2048 * sd + b) = _
    rw [zsp_in sd _ 32 b hb]
    unfold lfD
    rw [if_pos (by rw [← hm]; exact h0), byt_0 _ (by omega)]; rfl
  · rename_i h0
    have hc0 : ¬ cntR (qM tr hs sd) (8 * (r - 32)) 8 = 0 := by rw [← hm]; exact h0
    have hlen : (lfT tr hs vw sd (8 * (r - 32)) x.2.2.2.1.2 8).1 = 10 * cntR (qM tr hs sd) (8 * (r - 32)) 8 := by rw [lfT_tq, tq_len]
    have htx : ∀ t, t < 10 * cntR (qM tr hs sd) (8 * (r - 32)) 8 → (lfT tr hs vw sd (8 * (r - 32)) x.2.2.2.1.2 8).2 t = (tq (qM tr hs sd) (fun k => vw (256 * sd + k)) (8 * (r - 32)) (fun _ => 0) 8).2 t := by
      intro t ht
      rw [lfT_tq]
      exact tq_same 8 (fun _ _ => rfl) (fun _ _ => rfl) t ht
    show dgB (2048 * sd) (zsp sd x.2.1 32) (dgM rd (lfT tr hs vw sd (8 * (r - 32)) x.2.2.2.1.2 8).1 (lfT tr hs vw sd (8 * (r - 32)) x.2.2.2.1.2 8).2 x.2.2.2.2).1 32 (2048 * sd + b) = _
    rw [dgB_in _ _ _ 32 b hb, hlen, sD_ref (by omega) _ hr _ (by omega), sD_congr htx]
    unfold lfD
    rw [if_neg hc0]
/-- what the reference keeps of both sides -/
def FB (D S D2 S2 : Nat → Int32) (x : rfT) : Prop := FR 0 D S x ∧ FR 1 D2 S2 x ∧ x.2.2.2.1.1 ≤ 128
theorem rfR_FB0 {kw hs : Nat → Bool} {kv : Nat → Int64} {rd : Nat → Int32} {x : rfT} {D S C D2 S2 : Nat → Int32} (h : TR (qM kw hs 0) (fun k => kv (256 * 0 + k)) D S C (fun _ => True)) (hr : ∀ t, t < 64 → rd t = sha_K t) (hf : FB D S D2 S2 x) : (rfR kw hs kv rd 0 x).1 0 = true ∧ FB D S D2 S2 (rfR kw hs kv rd 0 x) :=
  ⟨(rfR_ok h hr hf.1).1, (rfR_ok h hr hf.1).2, rfR_off (by decide) (by decide) (by decide) hf.2.1, rfR_bt hf.2.2⟩
theorem rfR_FB1 {kw hs : Nat → Bool} {kv : Nat → Int64} {rd : Nat → Int32} {x : rfT} {D S D2 S2 C2 : Nat → Int32} (h : TR (qM kw hs 1) (fun k => kv (256 * 1 + k)) D2 S2 C2 (fun _ => True)) (hr : ∀ t, t < 64 → rd t = sha_K t) (hf : FB D S D2 S2 x) : (rfR kw hs kv rd 1 x).1 1 = true ∧ FB D S D2 S2 (rfR kw hs kv rd 1 x) :=
  ⟨(rfR_ok h hr hf.2.1).1, rfR_off (by decide) (by decide) (by decide) hf.1, (rfR_ok h hr hf.2.1).2, rfR_bt hf.2.2⟩
theorem itA_FB {tr hs : Nat → Bool} {vw : Nat → Int64} {rd : Nat → Int32} {sd r : Nat} {x : rfT} {D S D2 S2 : Nat → Int32} (hs1 : sd < 2) (h : FB D S D2 S2 x) : FB D S D2 S2 (itA tr hs vw rd sd r x) :=
  ⟨itA_FR hs1 (by decide) h.1, itA_FR hs1 (by decide) h.2.1, itA_bt h.2.2⟩
/-- one leaf tried: the class's words beside the reference's bytes -/
theorem btQ_one {sd r : Nat} {dg D : Nat → Int32} {W : Nat → Int32} (h0 : ∀ b, b < 32 → dg (2048 * sd + b) = byt (W (b / 4)) (b % 4)) (h1 : ∀ b, b < 32 → dg (32 * (64 * sd + r) + b) = byt (D (8 * r + b / 4)) (b % 4)) {f : Nat → Int32} (hf : ∀ j, j < 8 → f j = W j) :
    eqN 32 dg dg (2048 * sd) (32 * (64 * sd + r)) = eq8 D f (8 * r) 0 := by
  cases e : eq8 D f (8 * r) 0
  · cases e2 : eqN 32 dg dg (2048 * sd) (32 * (64 * sd + r))
    · rfl
    · refine absurd (fun j hj => byt_inj (fun t ht => ?_)) (eq8_n e)
      have e3 := eqN_p e2 (4 * j + t) (by omega)
      rw [h0 _ (by omega), h1 _ (by omega), show (4 * j + t) / 4 = j by omega, show (4 * j + t) % 4 = t by omega] at e3
      rw [Nat.zero_add, hf j hj]
      exact e3.symm
  · refine eqN_t (fun b hb => ?_)
    rw [h0 b hb, h1 b hb, eq8_p e (b / 4) (by omega), Nat.zero_add, hf _ (by omega)]
theorem it_s {α : Type} (f : Nat → α → α) (a : α) (n : Nat) : it f a (n + 1) = f n (it f a n) := rfl
theorem btL_e (kw hs tr : Nat → Bool) (kv vw : Nat → Int64) (rd : Nat → Int32) (sd : Nat) (x : rfT) (i : Nat) : btL kw hs tr kv vw rd sd x (i + 1) = itE kw hs tr kv vw rd sd (32 + i) (btL kw hs tr kv vw rd sd x i) := by
  unfold btL
  rw [it_s]
theorem itE_e (kw hs tr : Nat → Bool) (kv vw : Nat → Int64) (rd : Nat → Int32) (sd r : Nat) (y : rfT) : itE kw hs tr kv vw rd sd r y = itA tr hs vw rd sd r (rfR kw hs kv rd sd y) := by
  rw [itE]
theorem btL_s (kw hs tr : Nat → Bool) (kv vw : Nat → Int64) (rd : Nat → Int32) (sd : Nat) (x : rfT) (i : Nat) : btL kw hs tr kv vw rd sd x (i + 1) = itA tr hs vw rd sd (32 + i) (rfR kw hs kv rd sd (btL kw hs tr kv vw rd sd x i)) := by
  rw [btL_e, itE_e]
theorem bcL_s (ct : Nat → Int32) (pr : Nat → Bool) (va : Nat → Int64) (x : shaT) (i : Nat) : bcL ct pr va x (i + 1) = hashL (ct (32 + i)) pr va (8 * (32 + i - 32)) (bcL ct pr va x i) := by
  unfold bcL
  rw [it_s]
theorem btL_FB0 {kw hs tr : Nat → Bool} {kv vw : Nat → Int64} {rd : Nat → Int32} {x : rfT} {D S C D2 S2 : Nat → Int32} (h : TR (qM kw hs 0) (fun k => kv (256 * 0 + k)) D S C (fun _ => True)) (hr : ∀ t, t < 64 → rd t = sha_K t) (hf : FB D S D2 S2 x) : ∀ i, FB D S D2 S2 (btL kw hs tr kv vw rd 0 x i)
  | 0 => hf
  | i + 1 => by
    rw [btL_s]
    exact itA_FB (by decide) (rfR_FB0 h hr (btL_FB0 h hr hf i)).2
theorem btL_FB1 {kw hs tr : Nat → Bool} {kv vw : Nat → Int64} {rd : Nat → Int32} {x : rfT} {D S D2 S2 C2 : Nat → Int32} (h : TR (qM kw hs 1) (fun k => kv (256 * 1 + k)) D2 S2 C2 (fun _ => True)) (hr : ∀ t, t < 64 → rd t = sha_K t) (hf : FB D S D2 S2 x) : ∀ i, FB D S D2 S2 (btL kw hs tr kv vw rd 1 x i)
  | 0 => hf
  | i + 1 => by
    rw [btL_s]
    exact itA_FB (by decide) (rfR_FB1 h hr (btL_FB1 h hr hf i)).2
theorem hashL_now {sd i : Nat} {sz : Int32} {pr ho hs tr kw hoA hoB : Nat → Bool} {va vw kv : Nat → Int64} {D S C : Nat → Int32} {x : shaT} (R : SR sd sz pr va ho D S C hs tr vw kw kv) (hq : ∀ k, k < 256 → qC pr hoA hoB k = qM tr hs sd k) (hi : i < 32) :
    ∀ j, j < 8 → (hashL (C (32 + i)) pr va (8 * (32 + i - 32)) x).2.1 j = lfD (qM tr hs sd) (fun k => vw (256 * sd + k)) (8 * (32 + i - 32)) j := by
  have hC := (R.t.1 (32 + i) (by omega) (by omega) trivial).2.2
  refine hashL_w ?_ (fun j hj => R.v _ (by omega)) (fun h j hj => ?_)
  · rw [hC, cntR_congr (fun j hj => qM_k R.k _ (by omega))]
  · rw [← hq _ (by omega)]
    refine cnt_q (by omega) (fun h0 => h ?_) j hj
    rw [← cntR_congr (fun j hj => hq _ (by omega))]
    exact h0
theorem broken_0 {sz sz2 : Int32} {pr pr2 ho ho2 hs tr kw : Nat → Bool} {va va2 vw kv : Nat → Int64} {D S C D2 S2 C2 rd : Nat → Int32} {x : shaT} {y : rfT} (R0 : SR 0 sz pr va ho D S C hs tr vw kw kv) (R1 : SR 1 sz2 pr2 va2 ho2 D2 S2 C2 hs tr vw kw kv) (hr : ∀ t, t < 64 → rd t = sha_K t) (hf : FB D S D2 S2 y) :
    btV (bcQ D C pr va x) = btV (btQ kw hs tr kv vw rd 0 y) := by
  refine btV_congr (fun i hi => ?_)
  unfold bcQ btQ
  rw [btL_s, bcL_s]
  have h1 := rfR_FB0 R0.t hr (btL_FB0 (tr := tr) (vw := vw) R0.t hr hf i)
  congr 1
  refine (btQ_one (itA_sp (by omega) (by omega) hr) (fun b hb => ?_) (hashL_now R0 (qC_0 R0.p R0.h R1.h) hi)).symm
  exact ((itA_FB (tr := tr) (hs := hs) (vw := vw) (rd := rd) (sd := 0) (r := 32 + i) (by decide) h1.2).1 (by rw [itA_off.1]; exact h1.1) (32 + i) (by omega) (by omega)).1 b hb
theorem broken_1 {sz sz2 : Int32} {pr pr2 ho ho2 hs tr kw : Nat → Bool} {va va2 vw kv : Nat → Int64} {D S C D2 S2 C2 rd : Nat → Int32} {x : shaT} {y : rfT} (R0 : SR 0 sz pr va ho D S C hs tr vw kw kv) (R1 : SR 1 sz2 pr2 va2 ho2 D2 S2 C2 hs tr vw kw kv) (hr : ∀ t, t < 64 → rd t = sha_K t) (hf : FB D S D2 S2 y) :
    btV (bcQ D2 C2 pr2 va2 x) = btV (btQ kw hs tr kv vw rd 1 y) := by
  refine btV_congr (fun i hi => ?_)
  unfold bcQ btQ
  rw [btL_s, bcL_s]
  have h1 := rfR_FB1 R1.t hr (btL_FB1 (tr := tr) (vw := vw) R1.t hr hf i)
  congr 1
  refine (btQ_one (itA_sp (by omega) (by omega) hr) (fun b hb => ?_) (hashL_now R1 (qC_1 R1.p R0.h R1.h) hi)).symm
  exact ((itA_FB (tr := tr) (hs := hs) (vw := vw) (rd := rd) (sd := 1) (r := 32 + i) (by decide) h1.2).2.1 (by rw [itA_off.1]; exact h1.1) (32 + i) (by omega) (by omega)).1 b hb
theorem FB_un0 {D S D2 S2 D' S' : Nat → Int32} {f : Nat → Bool} {y : mkT} (h : FB D S D2 S2 (f, y)) : FB D' S' D2 S2 (va_up f 0 false, y) :=
  ⟨fun e => absurd ((va_up_at f 0 false).symm.trans e) (by decide), fun e => h.2.1 (by
    have e' : va_up f 0 false 1 = true := e
    rw [va_up_off _ _ (by decide)] at e'
    exact e'), h.2.2⟩
theorem FB_un1 {D S D2 S2 D' S' : Nat → Int32} {f : Nat → Bool} {y : mkT} (h : FB D S D2 S2 (f, y)) : FB D S D' S' (va_up f 1 false, y) :=
  ⟨fun e => h.1 (by
    have e' : va_up f 1 false 0 = true := e
    rw [va_up_off _ _ (by decide)] at e'
    exact e'), fun e => absurd ((va_up_at f 1 false).symm.trans e) (by decide), h.2.2⟩
theorem anew_0 {sz sz2 : Int32} {pr pr2 ho ho2 hs tr kw : Nat → Bool} {va va2 vw kv : Nat → Int64} {D S C D2 S2 C2 rd ol : Nat → Int32} {s : shaT} {y : rfT} (R0 : SR 0 sz pr va ho D S C hs tr vw kw kv) (R1 : SR 1 sz2 pr2 va2 ho2 D2 S2 C2 hs tr vw kw kv) (hr : ∀ t, t < 64 → rd t = sha_K t) (hf : FB D S D2 S2 y) :
    (rmAll pr va (qC pr ho ho2) 32 63 (D, S, C, s, 0)).2.2.2.2 = anN (old2 (rfR kw hs kv rd 0 y).2.1 0 ol 2048) (rfR (lnK tr kw (256 * 0 + 0) (256 - 0)) hs (lnV vw kv (256 * 0 + 0) (256 - 0)) rd 0 (va_up (rfR kw hs kv rd 0 y).1 0 false, (rfR kw hs kv rd 0 y).2)).2.1 0 63 ∧
    FB (rmAll pr va (qC pr ho ho2) 32 63 (D, S, C, s, 0)).1 (rmAll pr va (qC pr ho ho2) 32 63 (D, S, C, s, 0)).2.1 D2 S2 (rfR (lnK tr kw (256 * 0 + 0) (256 - 0)) hs (lnV vw kv (256 * 0 + 0) (256 - 0)) rd 0 (va_up (rfR kw hs kv rd 0 y).1 0 false, (rfR kw hs kv rd 0 y).2)) := by
  have h1 := rfR_FB0 R0.t hr hf
  have R0' := SR_anew (s := s) R0 (qC_0 R0.p R0.h R1.h)
  have h2 := rfR_FB0 R0'.t hr (FB_un0 h1.2)
  refine ⟨?_, h2.2⟩
  rw [rmAll_CNT]
  refine (anN_cnt (fun r g1 g2 b hb => ?_) (fun r g1 g2 b hb => (h2.2.1 h2.1 r g1 g2).1 b hb) 63 (Nat.le_refl _)).symm
  rw [old2_in _ _ _ 2048 _ (by omega), show 2048 * 0 + (32 * r + b) = 32 * (64 * 0 + r) + b by omega]
  exact (h1.2.1 h1.1 r g1 g2).1 b hb
theorem anew_1 {sz sz2 : Int32} {pr pr2 ho ho2 hs tr kw : Nat → Bool} {va va2 vw kv : Nat → Int64} {D S C D2 S2 C2 rd ol : Nat → Int32} {s : shaT} {y : rfT} (R0 : SR 0 sz pr va ho D S C hs tr vw kw kv) (R1 : SR 1 sz2 pr2 va2 ho2 D2 S2 C2 hs tr vw kw kv) (hr : ∀ t, t < 64 → rd t = sha_K t) (hf : FB D S D2 S2 y) :
    (rmAll pr2 va2 (qC pr2 ho2 ho) 32 63 (D2, S2, C2, s, 0)).2.2.2.2 = anN (old2 (rfR kw hs kv rd 1 y).2.1 1 ol 2048) (rfR (lnK tr kw (256 * 1 + 0) (256 - 0)) hs (lnV vw kv (256 * 1 + 0) (256 - 0)) rd 1 (va_up (rfR kw hs kv rd 1 y).1 1 false, (rfR kw hs kv rd 1 y).2)).2.1 1 63 ∧
    FB D S (rmAll pr2 va2 (qC pr2 ho2 ho) 32 63 (D2, S2, C2, s, 0)).1 (rmAll pr2 va2 (qC pr2 ho2 ho) 32 63 (D2, S2, C2, s, 0)).2.1 (rfR (lnK tr kw (256 * 1 + 0) (256 - 0)) hs (lnV vw kv (256 * 1 + 0) (256 - 0)) rd 1 (va_up (rfR kw hs kv rd 1 y).1 1 false, (rfR kw hs kv rd 1 y).2)) := by
  have h1 := rfR_FB1 R1.t hr hf
  have R1' := SR_anew (s := s) R1 (qC_1 R1.p R0.h R1.h)
  have h2 := rfR_FB1 R1'.t hr (FB_un1 h1.2)
  refine ⟨?_, h2.2⟩
  rw [rmAll_CNT]
  refine (anN_cnt (fun r g1 g2 b hb => ?_) (fun r g1 g2 b hb => (h2.2.2.1 h2.1 r g1 g2).1 b hb) 63 (Nat.le_refl _)).symm
  rw [old2_in _ _ _ 2048 _ (by omega), show 2048 * 1 + (32 * r + b) = 32 * (64 * 1 + r) + b by omega]
  exact (h1.2.2.1 h1.1 r g1 g2).1 b hb
