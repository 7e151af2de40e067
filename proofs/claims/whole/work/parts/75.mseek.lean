/-! the reference's search, halfway: some of the steps from what is at a place have been taken -/
def FI (E : Nat → Nat → Nat → Prop) (S i : Nat) (D : Nat → Prop) (F : Nat) (ro dp : Nat → Nat) : Prop := 0 < F ∧ ro 0 = S ∧ dp 0 = 0 ∧ (∀ j, 0 < j → j < F → ∃ i l, i < j ∧ E (ro i) l (ro j) ∧ dp j = dp i + 1) ∧ (∀ i' l b, i' < F → (i' < i ∨ (i' = i ∧ D l)) → E (ro i') l b → ∃ j, j < F ∧ ro j = b ∧ dp j ≤ dp i' + 1) ∧ (∀ i j, i < F → j < F → ro i = ro j → i = j) ∧ (∀ i j, i ≤ j → j < F → dp i ≤ dp j) ∧ (i < F → ∀ j, j < F → dp j ≤ dp i + 1)
section FIS
variable {E : Nat → Nat → Nat → Prop} {S i F : Nat} {D D' : Nat → Prop} {ro dp : Nat → Nat}
theorem FI_old {l b : Nat} (hE : ∀ a l b b', E a l b → E a l b' → b = b') (h : FI E S i D F ro dp) (hi : i < F) (he : E (ro i) l b) (hj : ∃ j, j < F ∧ ro j = b) (hD : ∀ l', D' l' → D l' ∨ l' = l) : FI E S i D' F ro dp := by
  obtain ⟨h0, h1, h2, h3, h4, h5, h6, h7⟩ := h
  refine ⟨h0, h1, h2, h3, fun i' l' b' a c e => ?_, h5, h6, h7⟩
  by_cases q : i' < i ∨ (i' = i ∧ D l')
  · exact h4 i' l' b' a q e
  · have e1 : i' = i := by omega
    subst e1
    have hd : D' l' := by
      rcases c with c | c
      · omega
      · exact c.2
    rcases hD l' hd with z | z
    · exact absurd (Or.inr ⟨rfl, z⟩) q
    · subst z
      have := hE _ _ _ _ he e
      subst this
      obtain ⟨j, k1, k2⟩ := hj
      exact ⟨j, k1, k2, h7 hi j k1⟩
theorem FI_add {l b : Nat} (hE : ∀ a l b b', E a l b → E a l b' → b = b') (h : FI E S i D F ro dp) (hi : i < F) (he : E (ro i) l b) (hj : ∀ j, j < F → ro j ≠ b) (hD : ∀ l', D' l' → D l' ∨ l' = l) : FI E S i D' (F + 1) (un ro F b) (un dp F (dp i + 1)) := by
  obtain ⟨h0, h1, h2, h3, h4, h5, h6, h7⟩ := h
  refine ⟨by omega, ?_, ?_, fun j a c => ?_, fun i' l' b' a c e => ?_, fun x y a c e => ?_, fun x y a c => ?_, fun a j c => ?_⟩
  · rw [un_ne (by omega)]; exact h1
  · rw [un_ne (by omega)]; exact h2
  · by_cases q : j = F
    · subst q
      refine ⟨i, l, hi, ?_, ?_⟩
      · rw [un_at, un_ne (by omega)]; exact he
      · rw [un_at, un_ne (by omega)]
    · obtain ⟨i', l', g1, g2, g3⟩ := h3 j a (by omega)
      refine ⟨i', l', g1, ?_, ?_⟩
      · rw [un_ne q, un_ne (by omega)]; exact g2
      · rw [un_ne q, un_ne (by omega)]; exact g3
  · have old : (i' < i ∨ (i' = i ∧ D l')) → ∃ j, j < F + 1 ∧ un ro F b j = b' ∧ un dp F (dp i + 1) j ≤ un dp F (dp i + 1) i' + 1 := by
      intro q
      rw [un_ne (by omega)] at e
      obtain ⟨j, k1, k2, k3⟩ := h4 i' l' b' (by omega) q e
      refine ⟨j, by omega, ?_, ?_⟩
      · rw [un_ne (by omega)]; exact k2
      · rw [un_ne (by omega), un_ne (by omega)]; exact k3
    rcases c with c | ⟨c1, c2⟩
    · exact old (Or.inl c)
    · subst c1
      rcases hD l' c2 with z | z
      · exact old (Or.inr ⟨rfl, z⟩)
      · subst z
        rw [un_ne (by omega)] at e
        have := hE _ _ _ _ he e
        subst this
        refine ⟨F, by omega, un_at, ?_⟩
        rw [un_at, un_ne (by omega)]; exact Nat.le_refl _
  · by_cases q : x = F
    · by_cases q' : y = F
      · omega
      · rw [q, un_at, un_ne q'] at e
        exact absurd e.symm (hj y (by omega))
    · by_cases q' : y = F
      · rw [q', un_at, un_ne q] at e
        exact absurd e (hj x (by omega))
      · rw [un_ne q, un_ne q'] at e
        exact h5 x y (by omega) (by omega) e
  · by_cases q : y = F
    · by_cases q' : x = F
      · rw [q, q']; exact Nat.le_refl _
      · rw [q, un_at, un_ne q']; exact h7 hi x (by omega)
    · rw [un_ne q, un_ne (show x ≠ F by omega)]; exact h6 x y a (by omega)
  · rw [un_ne (F := dp) (show i ≠ F by omega)]
    by_cases q : j = F
    · rw [q, un_at]; exact Nat.le_refl _
    · rw [un_ne q]; exact h7 hi j (by omega)
theorem FI_skip (h : FI E S i D F ro dp) (hn : ∀ l b, D' l → ¬ D l → ¬ E (ro i) l b) : FI E S i D' F ro dp := by
  obtain ⟨h0, h1, h2, h3, h4, h5, h6, h7⟩ := h
  refine ⟨h0, h1, h2, h3, fun i' l' b' a c e => ?_, h5, h6, h7⟩
  rcases c with c | ⟨c1, c2⟩
  · exact h4 i' l' b' a (Or.inl c) e
  · subst c1
    by_cases q : D l'
    · exact h4 i' l' b' a (Or.inr ⟨rfl, q⟩) e
    · exact absurd e (hn l' b' c2 q)
theorem FI_next (h : FI E S i D F ro dp) (hn : ∀ l b, ¬ D l → ¬ E (ro i) l b) : FI E S (i + 1) (fun _ => False) F ro dp := by
  obtain ⟨h0, h1, h2, h3, h4, h5, h6, h7⟩ := h
  refine ⟨h0, h1, h2, h3, fun i' l' b' a c e => ?_, h5, h6, fun a j c => ?_⟩
  · rcases c with c | c
    · by_cases q : i' = i
      · subst q
        by_cases q : D l'
        · exact h4 i' l' b' a (Or.inr ⟨rfl, q⟩) e
        · exact absurd e (hn l' b' q)
      · exact h4 i' l' b' a (Or.inl (by omega)) e
    · exact c.2.elim
  · have := h7 (by omega) j c
    have := h6 i (i + 1) (by omega) a
    omega
theorem FI_end (h : FI E S i D F ro dp) (hi : F ≤ i) : FB E S F ro dp := by
  obtain ⟨h0, h1, h2, h3, h4, h5, h6, h7⟩ := h
  exact ⟨h0, h1, h2, h3, fun i' l b a e => h4 i' l b a (Or.inl (by omega)) e, h5, h6⟩
end FIS
/-- the reference's rows: what is found -/
def mB (m F : Nat) (ro dp : Nat → Nat) (fa qu : Nat → Int32) (re : Int32) : Prop := re = jn F ∧ F ≤ 5040 ∧ (∀ j, j < F → qu j = jn (ro j) ∧ ro j < 5040 ∧ fa (ro j) = jn (dp j) ∧ dp j ≤ j ∧ ∃ r, Pm m r ∧ rk m r = ro j) ∧ (∀ k, k < 5040 → (∀ j, j < F → ro j ≠ k) → fa k = -1)
section MCT
variable {N m F : Nat} {ro dp : Nat → Nat} {fa qu : Nat → Int32} {re : Int32}
theorem wm_comesTo {s : Nat → Nat} {d : Nat} {Q : (Nat → Int32) → (Nat → Int32) → Int32 → Prop} {x y : Int32} (hm : m ≤ 7) (hB : mB m F ro dp fa qu re) (hI : ∀ i j, i < F → j < F → ro i = ro j → i = j) (hs : Pm m s) (hd : d ≤ F) (hx : x = jn (rk m s : Int)) (hy : y = jn (d : Int)) (hO : (∃ j, j < F ∧ ro j = rk m s) → Q fa qu re) (hA : (∀ j, j < F → ro j ≠ rk m s) → ∀ fa' qu' re', mB m (F + 1) (un ro F (rk m s)) (un dp F d) fa' qu' re' → Q fa' qu' re') : wp_X12_comesTo N Q x y fa qu re := by
  obtain ⟨c1, c2, c3, c4⟩ := hB
  have hr := rk_lt (r := s) hm
  unfold wp_X12_comesTo
  subst hx hy c1
  rw [jn_cln (by omega)]
  refine ⟨by simp (disch := omega) only [jn_le, jn_lt, jn_eq, jn_in, jn_add, jn_sub, jn_mul, jn_neg, li_0, li_1, li_2, li_3, li_4, li_5, li_6, li_7, li_8, li_9, li_10, li_11, li_12, li_13, li_14, li_15, li_16, li_17, li_18, li_20, li_24, li_29, li_30, li_31, li_32, li_37, li_39, li_40, li_42, li_43, li_45, li_46, li_47, li_48, li_53, li_57, li_59, li_60, li_61, li_62, li_63, li_80, li_81, li_91, li_93, li_97, li_100, li_122, li_200, li_255, li_256, li_257, li_258, li_259, li_260, li_300, li_314, li_400, li_580, li_999, li_5040, li_9999, li_65536, li_99999, li_7654321] <;> omega, fun z => ⟨by simp (disch := omega) only [jn_le, jn_lt, jn_eq, jn_in, jn_add, jn_sub, jn_mul, jn_neg, li_0, li_1, li_2, li_3, li_4, li_5, li_6, li_7, li_8, li_9, li_10, li_11, li_12, li_13, li_14, li_15, li_16, li_17, li_18, li_20, li_24, li_29, li_30, li_31, li_32, li_37, li_39, li_40, li_42, li_43, li_45, li_46, li_47, li_48, li_53, li_57, li_59, li_60, li_61, li_62, li_63, li_80, li_81, li_91, li_93, li_97, li_100, li_122, li_200, li_255, li_256, li_257, li_258, li_259, li_260, li_300, li_314, li_400, li_580, li_999, li_5040, li_9999, li_65536, li_99999, li_7654321] <;> omega, fun a1 e1 => ?_⟩, fun z => ?_⟩
  · have hj : ∀ j, j < F → ro j ≠ rk m s := by
      intro j hj q
      obtain ⟨-, -, g3, g4, -⟩ := c3 j hj
      rw [← q, g3, li_0, jn_lt (by omega) (by omega)] at z
      omega
    have hF : F < 5040 := inj_lt hI (fun j hj => (c3 j hj).2.1) hr hj
    refine ⟨by simp (disch := omega) only [jn_le, jn_lt, jn_eq, jn_in, jn_add, jn_sub, jn_mul, jn_neg, li_0, li_1, li_2, li_3, li_4, li_5, li_6, li_7, li_8, li_9, li_10, li_11, li_12, li_13, li_14, li_15, li_16, li_17, li_18, li_20, li_24, li_29, li_30, li_31, li_32, li_37, li_39, li_40, li_42, li_43, li_45, li_46, li_47, li_48, li_53, li_57, li_59, li_60, li_61, li_62, li_63, li_80, li_81, li_91, li_93, li_97, li_100, li_122, li_200, li_255, li_256, li_257, li_258, li_259, li_260, li_300, li_314, li_400, li_580, li_999, li_5040, li_9999, li_65536, li_99999, li_7654321] <;> omega, fun a2 e2 => ?_⟩
    rw [jn_cln (by omega)] at e2
    rw [show jn (F : Int) + (1 : Int32) = jn ((F + 1 : Nat) : Int) from by (first | rfl | (simp (disch := omega) only [jn_add, jn_sub, jn_mul, jn_neg, li_0, li_1, li_2, li_3, li_4, li_5, li_6, li_7, li_8, li_9, li_10, li_11, li_12, li_13, li_14, li_15, li_16, li_17, li_18, li_20, li_24, li_29, li_30, li_31, li_32, li_37, li_39, li_40, li_42, li_43, li_45, li_46, li_47, li_48, li_53, li_57, li_59, li_60, li_61, li_62, li_63, li_80, li_81, li_91, li_93, li_97, li_100, li_122, li_200, li_255, li_256, li_257, li_258, li_259, li_260, li_300, li_314, li_400, li_580, li_999, li_5040, li_9999, li_65536, li_99999, li_7654321] <;> first | rfl | exact congrArg jn (by omega)) | exact congrArg jn (by omega))]
    refine hA hj a1 a2 _ ⟨rfl, by omega, fun j hjF => ?_, fun k hk hn => ?_⟩
    · by_cases e : j = F
      · subst e
        rw [un_at, un_at]
        exact ⟨by rw [e2, upd_at], hr, by rw [e1, upd_at], hd, s, hs, rfl⟩
      · rw [un_ne e, un_ne e]
        obtain ⟨g1, g2, g3, g4, g5⟩ := c3 j (by omega)
        exact ⟨by rw [e2, upd_ne e]; exact g1, g2, by rw [e1, upd_ne (hj j (by omega))]; exact g3, g4, g5⟩
    · have h1 := hn F (by omega)
      rw [un_at] at h1
      rw [e1, upd_ne (fun q => h1 q.symm)]
      refine c4 k hk (fun j hjF => ?_)
      have := hn j (by omega)
      rw [un_ne (by omega)] at this
      exact this
  · by_cases hj : ∃ j, j < F ∧ ro j = rk m s
    · exact hO hj
    · exfalso
      refine z ?_
      rw [c4 _ hr (fun j a b => hj ⟨j, a, b⟩)]
      decide
end MCT
