/-! the words stand in the tables -/
theorem ax_wi_0 : ∀ w ∈ ax_wd_0, w ∈ lw_tbl ∧ goodWord w = true := by decide +kernel
theorem ax_wi_1 : ∀ w ∈ ax_wd_1, w ∈ lw_tbl ∧ goodWord w = true := by decide +kernel
theorem ax_wi_2 : ∀ w ∈ ax_wd_2, w ∈ lw_tbl ∧ goodWord w = true := by decide +kernel
theorem ax_wi_3 : ∀ w ∈ ax_wd_3, w ∈ lw_tbl ∧ goodWord w = true := by decide +kernel
theorem ax_wi_4 : ∀ w ∈ ax_wd_4, w ∈ lw_tbl ∧ goodWord w = true := by decide +kernel
theorem ax_wi_5 : ∀ w ∈ ax_wd_5, w ∈ lw_tbl ∧ goodWord w = true := by decide +kernel
theorem ax_wi_6 : ∀ w ∈ ax_wd_6, w ∈ lw_tbl ∧ goodWord w = true := by decide +kernel
theorem ax_wi_7 : ∀ w ∈ ax_wd_7, w ∈ lw_tbl ∧ goodWord w = true := by decide +kernel
theorem ax_wi_8 : ∀ w ∈ ax_wd_8, w ∈ lw_tbl ∧ goodWord w = true := by decide +kernel
theorem ax_wi_9 : ∀ w ∈ ax_wd_9, w ∈ lw_tbl ∧ goodWord w = true := by decide +kernel
theorem ax_wi_10 : ∀ w ∈ ax_wd_10, w ∈ lw_tbl ∧ goodWord w = true := by decide +kernel
theorem ax_wi_11 : ∀ w ∈ ax_wd_11, w ∈ lw_tbl ∧ goodWord w = true := by decide +kernel
theorem ax_wi_12 : ∀ w ∈ ax_wd_12, w ∈ lw_tbl ∧ goodWord w = true := by decide +kernel
theorem ax_wi_13 : ∀ w ∈ ax_wd_13, w ∈ lw_tbl ∧ goodWord w = true := by decide +kernel
theorem ax_wi_14 : ∀ w ∈ ax_wd_14, w ∈ lw_tbl ∧ goodWord w = true := by decide +kernel
theorem ax_wi_15 : ∀ w ∈ ax_wd_15, w ∈ lw_tbl ∧ goodWord w = true := by decide +kernel
theorem ax_wi_16 : ∀ w ∈ ax_wd_16, w ∈ lw_tbl ∧ goodWord w = true := by decide +kernel
theorem ax_wi_17 : ∀ w ∈ ax_wd_17, w ∈ lw_tbl ∧ goodWord w = true := by decide +kernel
theorem ax_wi_18 : ∀ w ∈ ax_wd_18, w ∈ lw_tbl ∧ goodWord w = true := by decide +kernel
theorem ax_wi_19 : ∀ w ∈ ax_wd_19, w ∈ lw_tbl ∧ goodWord w = true := by decide +kernel
theorem ax_wi_20 : ∀ w ∈ ax_wd_20, w ∈ lw_tbl ∧ goodWord w = true := by decide +kernel
theorem ax_wi_21 : ∀ w ∈ ax_wd_21, w ∈ lw_tbl ∧ goodWord w = true := by decide +kernel
theorem ax_wi_22 : ∀ w ∈ ax_wd_22, w ∈ lw_tbl ∧ goodWord w = true := by decide +kernel
theorem ax_wi_23 : ∀ w ∈ ax_wd_23, w ∈ lw_tbl ∧ goodWord w = true := by decide +kernel
theorem ax_wi_24 : ∀ w ∈ ax_wd_24, w ∈ lw_tbl ∧ goodWord w = true := by decide +kernel
theorem ax_wi_25 : ∀ w ∈ ax_wd_25, w ∈ lw_tbl ∧ goodWord w = true := by decide +kernel
theorem ax_wi_26 : ∀ w ∈ ax_wd_26, w ∈ lw_tbl ∧ goodWord w = true := by decide +kernel
theorem ax_wi_27 : ∀ w ∈ ax_wd_27, w ∈ lw_tbl ∧ goodWord w = true := by decide +kernel
theorem ax_wi_28 : ∀ w ∈ ax_wd_28, w ∈ lw_tbl ∧ goodWord w = true := by decide +kernel
theorem ax_wi_29 : ∀ w ∈ ax_wd_29, w ∈ lw_tbl ∧ goodWord w = true := by decide +kernel
theorem ax_wi_30 : ∀ w ∈ ax_wd_30, w ∈ lw_tbl ∧ goodWord w = true := by decide +kernel
theorem ax_wi_31 : ∀ w ∈ ax_wd_31, w ∈ lw_tbl ∧ goodWord w = true := by decide +kernel
theorem ax_wi_32 : ∀ w ∈ ax_wd_32, w ∈ lw_tbl ∧ goodWord w = true := by decide +kernel
theorem ax_wi_33 : ∀ w ∈ ax_wd_33, w ∈ lw_tbl ∧ goodWord w = true := by decide +kernel
theorem ax_wi_34 : ∀ w ∈ ax_wd_34, w ∈ lw_tbl ∧ goodWord w = true := by decide +kernel
theorem ax_wi_35 : ∀ w ∈ ax_wd_35, w ∈ lw_tbl ∧ goodWord w = true := by decide +kernel
theorem ax_wi_36 : ∀ w ∈ ax_wd_36, w ∈ lw_tbl ∧ goodWord w = true := by decide +kernel
theorem ax_wi_37 : ∀ w ∈ ax_wd_37, w ∈ lw_tbl ∧ goodWord w = true := by decide +kernel
theorem ax_word_in (k : Nat) : ax_word k ∈ ax_TB := by
  have h0 : Cond.initialized "LeapLane" ∈ ax_TB := List.mem_filter.mpr (by decide +kernel)
  have h1 : ∀ l ∈ ax_wds, ∀ w ∈ l, w ∈ ax_TB := by
    intro l hl w hw
    simp only [ax_wds, List.mem_cons, List.not_mem_nil, or_false] at hl
    rcases hl with rfl | rfl | rfl | rfl | rfl | rfl | rfl | rfl | rfl | rfl | rfl | rfl | rfl | rfl | rfl | rfl | rfl | rfl | rfl | rfl | rfl | rfl | rfl | rfl | rfl | rfl | rfl | rfl | rfl | rfl | rfl | rfl | rfl | rfl | rfl | rfl | rfl | rfl
    · exact List.mem_filter.mpr (ax_wi_0 w hw)
    · exact List.mem_filter.mpr (ax_wi_1 w hw)
    · exact List.mem_filter.mpr (ax_wi_2 w hw)
    · exact List.mem_filter.mpr (ax_wi_3 w hw)
    · exact List.mem_filter.mpr (ax_wi_4 w hw)
    · exact List.mem_filter.mpr (ax_wi_5 w hw)
    · exact List.mem_filter.mpr (ax_wi_6 w hw)
    · exact List.mem_filter.mpr (ax_wi_7 w hw)
    · exact List.mem_filter.mpr (ax_wi_8 w hw)
    · exact List.mem_filter.mpr (ax_wi_9 w hw)
    · exact List.mem_filter.mpr (ax_wi_10 w hw)
    · exact List.mem_filter.mpr (ax_wi_11 w hw)
    · exact List.mem_filter.mpr (ax_wi_12 w hw)
    · exact List.mem_filter.mpr (ax_wi_13 w hw)
    · exact List.mem_filter.mpr (ax_wi_14 w hw)
    · exact List.mem_filter.mpr (ax_wi_15 w hw)
    · exact List.mem_filter.mpr (ax_wi_16 w hw)
    · exact List.mem_filter.mpr (ax_wi_17 w hw)
    · exact List.mem_filter.mpr (ax_wi_18 w hw)
    · exact List.mem_filter.mpr (ax_wi_19 w hw)
    · exact List.mem_filter.mpr (ax_wi_20 w hw)
    · exact List.mem_filter.mpr (ax_wi_21 w hw)
    · exact List.mem_filter.mpr (ax_wi_22 w hw)
    · exact List.mem_filter.mpr (ax_wi_23 w hw)
    · exact List.mem_filter.mpr (ax_wi_24 w hw)
    · exact List.mem_filter.mpr (ax_wi_25 w hw)
    · exact List.mem_filter.mpr (ax_wi_26 w hw)
    · exact List.mem_filter.mpr (ax_wi_27 w hw)
    · exact List.mem_filter.mpr (ax_wi_28 w hw)
    · exact List.mem_filter.mpr (ax_wi_29 w hw)
    · exact List.mem_filter.mpr (ax_wi_30 w hw)
    · exact List.mem_filter.mpr (ax_wi_31 w hw)
    · exact List.mem_filter.mpr (ax_wi_32 w hw)
    · exact List.mem_filter.mpr (ax_wi_33 w hw)
    · exact List.mem_filter.mpr (ax_wi_34 w hw)
    · exact List.mem_filter.mpr (ax_wi_35 w hw)
    · exact List.mem_filter.mpr (ax_wi_36 w hw)
    · exact List.mem_filter.mpr (ax_wi_37 w hw)
  unfold ax_word
  generalize hl : ax_wds.getD (k / 30) [] = l
  by_cases hj : k / 30 < ax_wds.length
  · have hm : l ∈ ax_wds := by
      rw [← hl, List.getD_eq_getElem?_getD, List.getElem?_eq_getElem hj]
      exact List.getElem_mem hj
    by_cases hi : k % 30 < l.length
    · rw [List.getD_eq_getElem?_getD, List.getElem?_eq_getElem hi]
      exact h1 l hm _ (List.getElem_mem hi)
    · rw [List.getD_eq_getElem?_getD, List.getElem?_eq_none (by omega)]
      exact h0
  · have : l = [] := by rw [← hl, List.getD_eq_getElem?_getD, List.getElem?_eq_none (by omega)]; rfl
    rw [this]
    exact h0
