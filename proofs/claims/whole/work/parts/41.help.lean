/-! words of the helpers that catch an index out of its bounds -/
def wsL_digestT : List Cond := .codeWith yL_digest cL_digest 6 (some .int) [(0, 12, 15, 39)] :: (wsL_digest.tail ++ (Cond.classLink RL 39 "java/lang/ArrayIndexOutOfBoundsException" :: atIOB))
def wsL_sumT : List Cond := .codeWith yL_sum cL_sum 5 (some .int) [(0, 10, 13, 39)] :: (wsL_sum.tail ++ (Cond.classLink RL 39 "java/lang/ArrayIndexOutOfBoundsException" :: atIOB))
theorem inL_digestT : ∀ w ∈ wsL_digest, w ∈ wsL_digestT := fun w h => by
  have h' : w ∈ Cond.codeWith yL_digest cL_digest 6 (some .int) [(0, 12, 15, 39)] :: wsL_digest.tail := h
  rcases List.mem_cons.mp h' with h' | h'
  · rw [h']; exact List.mem_cons_self
  · exact List.mem_cons_of_mem _ (List.mem_append_left _ h')
theorem inL_sumT : ∀ w ∈ wsL_sum, w ∈ wsL_sumT := fun w h => by
  have h' : w ∈ Cond.codeWith yL_sum cL_sum 5 (some .int) [(0, 10, 13, 39)] :: wsL_sum.tail := h
  rcases List.mem_cons.mp h' with h' | h'
  · rw [h']; exact List.mem_cons_self
  · exact List.mem_cons_of_mem _ (List.mem_append_left _ h')
theorem good_atIOB {big : List Cond} (h : ∀ w ∈ atIOB, w ∈ big) : GoodIn big atIOB := fun w hw => ⟨h w hw, good_of_word (List.mem_filter.mp hw).2⟩
theorem gL_digest_T : GoodIn wsL_digestT (wsV RL 35 RX4 yX4_digest wsX4_digestT) := by
  have h1 : GoodIn wsL_digestT (wsV RL 35 RX4 yX4_digest wsX4_digest) := goodIn_up gL_digest_X4_digest inL_digestT
  have h2 : GoodIn wsL_digestT atIOB := good_atIOB (fun w h => List.mem_cons_of_mem _ (List.mem_append_right _ (List.mem_cons_of_mem _ h)))
  intro w hw
  have hw' : w ∈ wsV RL 35 RX4 yX4_digest wsX4_digest ++ atIOB := hw
  rcases List.mem_append.mp hw' with h | h
  · exact h1 w h
  · exact h2 w h
theorem gL_sum_T : GoodIn wsL_sumT (wsV RL 41 RX4 yX4_sum wsX4_sumT) := by
  have h1 : GoodIn wsL_sumT (wsV RL 41 RX4 yX4_sum wsX4_sum) := goodIn_up gL_sum_X4_sum inL_sumT
  have h2 : GoodIn wsL_sumT atIOB := good_atIOB (fun w h => List.mem_cons_of_mem _ (List.mem_append_right _ (List.mem_cons_of_mem _ h)))
  intro w hw
  have hw' : w ∈ wsV RL 41 RX4 yX4_sum wsX4_sum ++ atIOB := hw
  rcases List.mem_append.mp hw' with h | h
  · exact h1 w h
  · exact h2 w h
