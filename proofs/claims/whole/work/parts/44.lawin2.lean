set_option maxRecDepth 20000 in
theorem in_wsX00 : ∀ w ∈ wsX00, w ∈ lw_tbl := fun w h => by
  have e : wsX00 = ([108, 110, 112] : List Nat).filterMap (fun i => lw_tbl[i]?) := rfl
  rw [e] at h
  obtain ⟨i, -, hi⟩ := List.mem_filterMap.mp h
  exact List.mem_of_getElem? hi
set_option maxRecDepth 20000 in
theorem in_wsX10 : ∀ w ∈ wsX10, w ∈ lw_tbl := fun w h => by
  have e : wsX10 = ([81, 83, 85, 87, 89, 91, 93] : List Nat).filterMap (fun i => lw_tbl[i]?) := rfl
  rw [e] at h
  obtain ⟨i, -, hi⟩ := List.mem_filterMap.mp h
  exact List.mem_of_getElem? hi
set_option maxRecDepth 20000 in
theorem in_wsX20 : ∀ w ∈ wsX20, w ∈ lw_tbl := fun w h => by
  have e : wsX20 = ([161, 163, 165, 167, 169, 171, 173, 175, 177] : List Nat).filterMap (fun i => lw_tbl[i]?) := rfl
  rw [e] at h
  obtain ⟨i, -, hi⟩ := List.mem_filterMap.mp h
  exact List.mem_of_getElem? hi
set_option maxRecDepth 20000 in
theorem in_wsX30 : ∀ w ∈ wsX30, w ∈ lw_tbl := fun w h => by
  have e : wsX30 = ([129, 131, 133, 135, 137, 139, 141, 143] : List Nat).filterMap (fun i => lw_tbl[i]?) := rfl
  rw [e] at h
  obtain ⟨i, -, hi⟩ := List.mem_filterMap.mp h
  exact List.mem_of_getElem? hi
set_option maxRecDepth 20000 in
theorem in_wsX40 : ∀ w ∈ wsX40, w ∈ lw_tbl := fun w h => by
  have e : wsX40 = ([185, 187, 189, 191, 193] : List Nat).filterMap (fun i => lw_tbl[i]?) := rfl
  rw [e] at h
  obtain ⟨i, -, hi⟩ := List.mem_filterMap.mp h
  exact List.mem_of_getElem? hi
set_option maxRecDepth 20000 in
theorem in_wsX50 : ∀ w ∈ wsX50, w ∈ lw_tbl := fun w h => by
  have e : wsX50 = ([802, 804, 806, 808, 810, 812, 814, 816, 818, 820, 822, 824, 826, 828, 830, 832, 834, 836, 838, 840, 842, 844, 846, 848, 850, 852, 854, 856, 858, 860, 862, 864, 866, 868] : List Nat).filterMap (fun i => lw_tbl[i]?) := rfl
  rw [e] at h
  obtain ⟨i, -, hi⟩ := List.mem_filterMap.mp h
  exact List.mem_of_getElem? hi
set_option maxRecDepth 20000 in
theorem in_wsJx000600 : ∀ w ∈ wsJx000600, w ∈ lw_tbl := fun w h => by
  have e : wsJx000600 = ([667, 668, 669, 670, 671, 680] : List Nat).filterMap (fun i => lw_tbl[i]?) := rfl
  rw [e] at h
  obtain ⟨i, -, hi⟩ := List.mem_filterMap.mp h
  exact List.mem_of_getElem? hi
theorem in_at_x0 : ∀ w ∈ (vx_atS RX4 48 "java/lang/IllegalArgumentException" ["java/lang/RuntimeException", "java/lang/Exception"]).filter goodWord, w ∈ lw_tbl := by decide +kernel
theorem in_at_x1 : ∀ w ∈ (vx_atS RX4 103 "java/util/NoSuchElementException" ["java/lang/RuntimeException", "java/lang/Exception"]).filter goodWord, w ∈ lw_tbl := by decide +kernel
theorem in_at_x2 : ∀ w ∈ (vx_atS RX4 114 "java/lang/IllegalStateException" ["java/lang/RuntimeException", "java/lang/Exception"]).filter goodWord, w ∈ lw_tbl := by decide +kernel
theorem in_at_x3 : ∀ w ∈ atIOB, w ∈ lw_tbl := by decide +kernel
theorem in_at_x4 : ∀ w ∈ gThrW, w ∈ lw_tbl := by decide +kernel
theorem in_wsL_law0 : ∀ w ∈ wsL_law0, w ∈ lw_tbl := List.forall_mem_append.mpr ⟨List.forall_mem_append.mpr ⟨List.forall_mem_append.mpr ⟨List.forall_mem_append.mpr ⟨List.forall_mem_append.mpr ⟨List.forall_mem_append.mpr ⟨List.forall_mem_append.mpr ⟨List.forall_mem_append.mpr ⟨List.forall_mem_append.mpr ⟨in_wsL_law0_r1, List.forall_mem_append.mpr ⟨in_wsL_law0_r2, List.forall_mem_append.mpr ⟨in_wsL_law0_r3, List.forall_mem_append.mpr ⟨in_wsL_law0_r4, List.forall_mem_append.mpr ⟨in_wsL_law0_r5, List.forall_mem_append.mpr ⟨in_wsL_law0_r6, List.forall_mem_append.mpr ⟨in_wsL_law0_r7, List.forall_mem_append.mpr ⟨in_wsL_law0_r8, List.forall_mem_append.mpr ⟨in_wsL_law0_r9, List.forall_mem_append.mpr ⟨in_wsL_law0_r10, List.forall_mem_append.mpr ⟨in_wsL_law0_r11, List.forall_mem_append.mpr ⟨in_wsL_law0_r12, List.forall_mem_append.mpr ⟨in_wsL_law0_r13, List.forall_mem_append.mpr ⟨in_wsL_law0_r14, List.forall_mem_append.mpr ⟨in_wsL_law0_r15, List.forall_mem_append.mpr ⟨in_wsL_law0_r16, List.forall_mem_append.mpr ⟨in_wsL_law0_r17, List.forall_mem_append.mpr ⟨in_wsL_law0_r18, List.forall_mem_append.mpr ⟨in_wsL_law0_r19, List.forall_mem_append.mpr ⟨in_wsL_law0_r20, List.forall_mem_append.mpr ⟨in_wsL_law0_r21, List.forall_mem_append.mpr ⟨in_wsL_law0_r22, List.forall_mem_append.mpr ⟨in_wsL_law0_r23, List.forall_mem_append.mpr ⟨in_wsL_law0_r24, List.forall_mem_append.mpr ⟨in_wsL_law0_r25, List.forall_mem_append.mpr ⟨in_wsL_law0_r26, List.forall_mem_append.mpr ⟨in_wsL_law0_r27, List.forall_mem_append.mpr ⟨in_wsL_law0_r28, List.forall_mem_append.mpr ⟨in_wsL_law0_r29, List.forall_mem_append.mpr ⟨in_wsL_law0_r30, List.forall_mem_append.mpr ⟨in_wsL_law0_r31, in_wsL_law0_r32⟩⟩⟩⟩⟩⟩⟩⟩⟩⟩⟩⟩⟩⟩⟩⟩⟩⟩⟩⟩⟩⟩⟩⟩⟩⟩⟩⟩⟩⟩⟩, in_wsX40⟩, in_wsX50⟩, in_wsX10⟩, in_wsX00⟩, in_wsX30⟩, in_wsX20⟩, in_wsJx000600⟩, fun w h => nomatch h⟩
theorem in_wsL_law : ∀ w ∈ wsL_law, w ∈ lw_tbl := List.forall_mem_append.mpr ⟨List.forall_mem_append.mpr ⟨List.forall_mem_append.mpr ⟨in_wsL_law0, in_at_x0⟩, in_at_x1⟩, in_at_x2⟩
def wsL_lawT : List Cond := wsL_law ++ (Cond.classLink RL 39 "java/lang/ArrayIndexOutOfBoundsException" :: atIOB)
set_option maxRecDepth 20000 in
theorem in_wsL_lawT : ∀ w ∈ wsL_lawT, w ∈ lw_tbl := List.forall_mem_append.mpr ⟨in_wsL_law, List.forall_mem_cons.mpr ⟨List.mem_of_getElem? (i := 656) rfl, in_at_x3⟩⟩
theorem wsL_lawT_l : ∀ w ∈ wsL_law, w ∈ wsL_lawT := fun _ h => List.mem_append_left _ h
