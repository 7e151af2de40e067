/-! a search, halfway: all steps before one of a number, from what is at a place, have been taken -/
def BI (E : Nat → Nat → Nat → Prop) (S i l F : Nat) (ro pa la dp : Nat → Nat) : Prop := 0 < F ∧ ro 0 = S ∧ dp 0 = 0 ∧ (∀ j, 0 < j → j < F → pa j < j ∧ E (ro (pa j)) (la j) (ro j) ∧ dp j = dp (pa j) + 1 ∧ (pa j < i ∨ (pa j = i ∧ la j < l))) ∧ (∀ i' l' b, i' < F → (i' < i ∨ (i' = i ∧ l' < l)) → E (ro i') l' b → ∃ j, j < F ∧ ro j = b ∧ (j = 0 ∨ pa j < i' ∨ (pa j = i' ∧ la j ≤ l'))) ∧ (∀ i j, i < F → j < F → ro i = ro j → i = j) ∧ (∀ i j, 0 < i → i < j → j < F → pa i < pa j ∨ (pa i = pa j ∧ la i < la j))
section BIS
variable {E : Nat → Nat → Nat → Prop} {S i l F : Nat} {ro pa la dp : Nat → Nat}
theorem BI_old {b : Nat} (hE : ∀ a l b b', E a l b → E a l b' → b = b') (h : BI E S i l F ro pa la dp) (he : E (ro i) l b) (hj : ∃ j, j < F ∧ ro j = b) : BI E S i (l + 1) F ro pa la dp := by
  obtain ⟨h0, h1, h2, h3, h4, h5, h6⟩ := h
  refine ⟨h0, h1, h2, fun j a c => ?_, fun i' l' b' a c e => ?_, h5, h6⟩
  · obtain ⟨g1, g2, g3, g4⟩ := h3 j a c
    exact ⟨g1, g2, g3, by omega⟩
  · by_cases q : i' < i ∨ (i' = i ∧ l' < l)
    · exact h4 i' l' b' a q e
    · have e1 : i' = i := by omega
      have e2 : l' = l := by omega
      subst e1 e2
      have := hE _ _ _ _ he e
      subst this
      obtain ⟨j, k1, k2⟩ := hj
      refine ⟨j, k1, k2, ?_⟩
      by_cases z : j = 0
      · exact Or.inl z
      · obtain ⟨-, -, -, g4⟩ := h3 j (by omega) k1
        omega
theorem BI_add {b : Nat} (hE : ∀ a l b b', E a l b → E a l b' → b = b') (h : BI E S i l F ro pa la dp) (hi : i < F) (he : E (ro i) l b) (hj : ∀ j, j < F → ro j ≠ b) : BI E S i (l + 1) (F + 1) (un ro F b) (un pa F i) (un la F l) (un dp F (dp i + 1)) := by
  obtain ⟨h0, h1, h2, h3, h4, h5, h6⟩ := h
  refine ⟨by omega, ?_, ?_, fun j a c => ?_, fun i' l' b' a c e => ?_, fun x y a c e => ?_, fun x y a c d => ?_⟩
  · rw [un_ne (by omega)]; exact h1
  · rw [un_ne (by omega)]; exact h2
  · by_cases q : j = F
    · subst q
      rw [un_at, un_at, un_at, un_at, un_ne (by omega), un_ne (by omega)]
      exact ⟨hi, he, rfl, by omega⟩
    · obtain ⟨g1, g2, g3, g4⟩ := h3 j a (by omega)
      rw [un_ne q, un_ne q, un_ne q, un_ne q, un_ne (by omega), un_ne (by omega)]
      exact ⟨g1, g2, g3, by omega⟩
  · by_cases q : i' < i ∨ (i' = i ∧ l' < l)
    · rw [un_ne (by omega)] at e
      obtain ⟨j, k1, k2, k3⟩ := h4 i' l' b' (by omega) q e
      refine ⟨j, by omega, ?_, ?_⟩
      · rw [un_ne (by omega)]; exact k2
      · rw [un_ne (by omega), un_ne (by omega)]; exact k3
    · have e1 : i' = i := by omega
      have e2 : l' = l := by omega
      subst e1 e2
      rw [un_ne (by omega)] at e
      have := hE _ _ _ _ he e
      subst this
      refine ⟨F, by omega, un_at, Or.inr (Or.inr ?_)⟩
      rw [un_at, un_at]; exact ⟨rfl, Nat.le_refl _⟩
  · by_cases q : x = F
    · by_cases q' : y = F
      · omega
      · rw [q, un_at, un_ne q'] at e
        exact absurd e.symm (hj y (by omega))
    · by_cases q' : y = F
      · rw [q', un_at, un_ne q] at e
        exact absurd e (hj x (by omega))
      · rw [un_ne q, un_ne q'] at e
        exact h5 x y (by omega) (by omega) e
  · rw [un_ne (F := pa) (show x ≠ F by omega), un_ne (F := la) (show x ≠ F by omega)]
    by_cases q : y = F
    · rw [q, un_at, un_at]
      exact (h3 x a (by omega)).2.2.2
    · rw [un_ne q, un_ne q]; exact h6 x y a c (by omega)
theorem BI_skip {l2 : Nat} (h : BI E S i l F ro pa la dp) (hl : l ≤ l2) (hn : ∀ l' b, l ≤ l' → l' < l2 → ¬ E (ro i) l' b) : BI E S i l2 F ro pa la dp := by
  obtain ⟨h0, h1, h2, h3, h4, h5, h6⟩ := h
  refine ⟨h0, h1, h2, fun j a c => ?_, fun i' l' b' a c e => ?_, h5, h6⟩
  · obtain ⟨g1, g2, g3, g4⟩ := h3 j a c
    exact ⟨g1, g2, g3, by omega⟩
  · by_cases q : i' < i ∨ (i' = i ∧ l' < l)
    · exact h4 i' l' b' a q e
    · have e1 : i' = i := by omega
      subst e1
      exact absurd e (hn l' b' (by omega) (by omega))
theorem BI_next (h : BI E S i l F ro pa la dp) (hn : ∀ l' b, l ≤ l' → ¬ E (ro i) l' b) : BI E S (i + 1) 0 F ro pa la dp := by
  obtain ⟨h0, h1, h2, h3, h4, h5, h6⟩ := h
  refine ⟨h0, h1, h2, fun j a c => ?_, fun i' l' b' a c e => ?_, h5, h6⟩
  · obtain ⟨g1, g2, g3, g4⟩ := h3 j a c
    exact ⟨g1, g2, g3, by omega⟩
  · by_cases q : i' < i ∨ (i' = i ∧ l' < l)
    · exact h4 i' l' b' a q e
    · have e1 : i' = i := by omega
      subst e1
      exact absurd e (hn l' b' (by omega))
theorem BI_end (h : BI E S i l F ro pa la dp) (hi : F ≤ i) : RB E S F ro pa la dp := by
  obtain ⟨h0, h1, h2, h3, h4, h5, h6⟩ := h
  exact ⟨h0, h1, h2, fun j a c => let g := h3 j a c; ⟨g.1, g.2.1, g.2.2.1⟩, fun i' l' b' a e => h4 i' l' b' a (by omega) e, h5, h6⟩
theorem BI_0 {S : Nat} {ro pa la dp : Nat → Nat} (h1 : ro 0 = S) (h2 : dp 0 = 0) : BI E S 0 0 1 ro pa la dp :=
  ⟨by omega, h1, h2, fun j a b => by omega, fun i' l' b a c => by omega, fun i j a b _ => by omega, fun i j a b c => by omega⟩
end BIS
theorem Lg_fun {m sp : Nat} {cl : Nat → Nat → Bool} (hm : m ≤ 7) : ∀ a l b b', Lg m sp cl a l b → Lg m sp cl a l b' → b = b' := by
  intro a l b b' h h'
  obtain ⟨r, h1, h2, h3, h4⟩ := h
  rw [← h2, Lg_iff hm h1] at h'
  rw [← h4, ← h'.2]
/-- class Reach's rows: what is found -/
def unQ (Q : Nat → Nat → Nat) (F : Nat) (s : Nat → Nat) : Nat → Nat → Nat := fun j => if j = F then s else Q j
def cB (m F : Nat) (Q : Nat → Nat → Nat) (pa la dp : Nat → Nat) (fo : Int32) (wh rw' fr de : Nat → Int32) : Prop :=
  fo = jn F ∧ F ≤ 5040 ∧ (∀ j, j < F → Pm m (Q j) ∧ rw' j = jn (p8 m (Q j) : Int) ∧ fr j = jn ((64 * pa j + la j : Nat) : Int) ∧ de j = jn (dp j : Int) ∧ wh (rk m (Q j)) = jn ((j + 1 : Nat) : Int) ∧ la j < 64 ∧ pa j < 5040 ∧ dp j ≤ j) ∧ (∀ k, k < 5040 → (∀ j, j < F → rk m (Q j) ≠ k) → wh k = 0)
section CAD
variable {N m F : Nat} {Q : Nat → Nat → Nat} {pa la dp : Nat → Nat} {fo : Int32} {wh rw' fr de : Nat → Int32}
theorem jn_pl {p l : Nat} (hl : l < 64) : jn (p : Int) <<< ((6 : Int32) &&& 31) ||| jn (l : Int) = jn ((64 * p + l : Nat) : Int) := by
  rw [show (6 : Int32) = jn ((6 : Nat) : Int) from rfl, jn_shl (by omega), jn_or, Nat.mul_comm]
  have := Nat.two_pow_add_eq_or_of_lt (i := 6) hl p
  rw [show (64 : Nat) = 2 ^ 6 from rfl, this]
theorem wl_add {s : Nat → Nat} {i l : Nat} {K : Int32 → (Nat → Int32) → (Nat → Int32) → (Nat → Int32) → (Nat → Int32) → Prop} {p0 p1 p2 p3 : Int32} (hm : m ≤ 7) (hB : cB m F Q pa la dp fo wh rw' fr de) (hI : ∀ i j, i < F → j < F → rk m (Q i) = rk m (Q j) → i = j) (hs : Pm m s) (hi : i < F ∨ (F = 0 ∧ i = 0)) (hl : l < 64) (e0 : p0 = jn (rk m s : Int)) (e1 : p1 = jn (p8 m s : Int)) (e2 : p2 = jn (i : Int)) (e3 : p3 = jn (l : Int))
    (hO : (∃ j, j < F ∧ rk m (Q j) = rk m s) → K fo wh rw' fr de)
    (hA : (∀ j, j < F → rk m (Q j) ≠ rk m s) → ∀ fo' wh' rw2 fr' de', cB m (F + 1) (unQ Q F s) (un pa F i) (un la F l) (un dp F (if F = 0 then 0 else dp i + 1)) fo' wh' rw2 fr' de' → K fo' wh' rw2 fr' de') : wp_X5_add N K p0 p1 p2 p3 fo wh rw' fr de := by
  obtain ⟨c1, c2, c3, c4⟩ := hB
  have hr := rk_lt (r := s) hm
  by_cases hj : ∃ j, j < F ∧ rk m (Q j) = rk m s
  · have hK := hO hj
    obtain ⟨j, j1, j2⟩ := hj
    have hw := (c3 j j1).2.2.2.2.1
    unfold wp_X5_add wp_X5_add_30
    refine ⟨fun _ => hK, fun _ => ⟨fun _ => hK, fun _ => ⟨fun _ => hK, fun _ => ⟨by rw [e0]; exact by simp (disch := omega) only [jn_le, jn_lt, jn_eq, jn_in, jn_add, jn_sub, jn_mul, jn_neg, li_0, li_1, li_2, li_3, li_4, li_5, li_6, li_7, li_8, li_9, li_10, li_11, li_12, li_13, li_14, li_15, li_16, li_17, li_18, li_20, li_24, li_29, li_30, li_31, li_32, li_37, li_39, li_40, li_42, li_43, li_45, li_46, li_47, li_48, li_53, li_57, li_59, li_60, li_61, li_62, li_63, li_80, li_81, li_91, li_93, li_97, li_100, li_122, li_200, li_255, li_256, li_257, li_258, li_259, li_260, li_300, li_314, li_400, li_580, li_999, li_5040, li_9999, li_65536, li_99999, li_7654321] <;> omega, fun z => ?_, fun _ => hK⟩⟩⟩⟩
    rw [e0, jn_cln (by omega), ← j2, hw, li_0, jn_eq (by omega) (by omega)] at z
    omega
  · have hj' : ∀ j, j < F → rk m (Q j) ≠ rk m s := fun j a b => hj ⟨j, a, b⟩
    have hF : F < 5040 := inj_lt hI (fun j _ => rk_lt hm) hr hj'
    have hw := c4 _ hr hj'
    have fin : ∀ (a1 a2 a3 a4 : Nat → Int32), a1 = upd rw' F p1 → a2 = upd fr F (jn ((64 * i + l : Nat) : Int)) → a3 = upd de F (jn ((if F = 0 then 0 else dp i + 1 : Nat) : Int)) → a4 = upd wh (rk m s) (jn ((F + 1 : Nat) : Int)) → cB m (F + 1) (unQ Q F s) (un pa F i) (un la F l) (un dp F (if F = 0 then 0 else dp i + 1)) (jn ((F + 1 : Nat) : Int)) a4 a1 a2 a3 := by
      intro a1 a2 a3 a4 q1 q2 q3 q4
      refine ⟨rfl, by omega, fun j hjF => ?_, fun k hk hn => ?_⟩
      · by_cases e : j = F
        · subst e
          rw [un_at, un_at, un_at, show unQ Q j s j = s from if_pos rfl]
          refine ⟨hs, by rw [q1, upd_at, e1], by rw [q2, upd_at], by rw [q3, upd_at], by rw [q4, upd_at], hl, by omega, ?_⟩
          by_cases z : j = 0
          · rw [if_pos z]; omega
          · rw [if_neg z]
            have := (c3 i (by omega)).2.2.2.2.2.2.2
            omega
        · rw [un_ne e, un_ne e, un_ne e, show unQ Q F s j = Q j from if_neg e]
          obtain ⟨g1, g2, g3, g4, g5, g6⟩ := c3 j (by omega)
          refine ⟨g1, by rw [q1, upd_ne e]; exact g2, by rw [q2, upd_ne e]; exact g3, by rw [q3, upd_ne e]; exact g4, ?_, g6⟩
          rw [q4, upd_ne (hj' j (by omega))]; exact g5
      · have h1 := hn F (by omega)
        rw [show unQ Q F s F = s from if_pos rfl] at h1
        rw [q4, upd_ne (fun q => h1 q.symm)]
        refine c4 k hk (fun j hjF => ?_)
        have := hn j (by omega)
        rw [show unQ Q F s j = Q j from if_neg (by omega)] at this
        exact this
    unfold wp_X5_add wp_X5_add_30 wp_X5_add_84
    subst c1
    refine ⟨fun z => ?_, fun _ => ⟨fun z => ?_, fun _ => ⟨fun z => ?_, fun _ => ⟨by rw [e0]; exact by simp (disch := omega) only [jn_le, jn_lt, jn_eq, jn_in, jn_add, jn_sub, jn_mul, jn_neg, li_0, li_1, li_2, li_3, li_4, li_5, li_6, li_7, li_8, li_9, li_10, li_11, li_12, li_13, li_14, li_15, li_16, li_17, li_18, li_20, li_24, li_29, li_30, li_31, li_32, li_37, li_39, li_40, li_42, li_43, li_45, li_46, li_47, li_48, li_53, li_57, li_59, li_60, li_61, li_62, li_63, li_80, li_81, li_91, li_93, li_97, li_100, li_122, li_200, li_255, li_256, li_257, li_258, li_259, li_260, li_300, li_314, li_400, li_580, li_999, li_5040, li_9999, li_65536, li_99999, li_7654321] <;> omega, fun _ => ⟨by simp (disch := omega) only [jn_le, jn_lt, jn_eq, jn_in, jn_add, jn_sub, jn_mul, jn_neg, li_0, li_1, li_2, li_3, li_4, li_5, li_6, li_7, li_8, li_9, li_10, li_11, li_12, li_13, li_14, li_15, li_16, li_17, li_18, li_20, li_24, li_29, li_30, li_31, li_32, li_37, li_39, li_40, li_42, li_43, li_45, li_46, li_47, li_48, li_53, li_57, li_59, li_60, li_61, li_62, li_63, li_80, li_81, li_91, li_93, li_97, li_100, li_122, li_200, li_255, li_256, li_257, li_258, li_259, li_260, li_300, li_314, li_400, li_580, li_999, li_5040, li_9999, li_65536, li_99999, li_7654321] <;> omega, fun a1 q1 => ⟨by simp (disch := omega) only [jn_le, jn_lt, jn_eq, jn_in, jn_add, jn_sub, jn_mul, jn_neg, li_0, li_1, li_2, li_3, li_4, li_5, li_6, li_7, li_8, li_9, li_10, li_11, li_12, li_13, li_14, li_15, li_16, li_17, li_18, li_20, li_24, li_29, li_30, li_31, li_32, li_37, li_39, li_40, li_42, li_43, li_45, li_46, li_47, li_48, li_53, li_57, li_59, li_60, li_61, li_62, li_63, li_80, li_81, li_91, li_93, li_97, li_100, li_122, li_200, li_255, li_256, li_257, li_258, li_259, li_260, li_300, li_314, li_400, li_580, li_999, li_5040, li_9999, li_65536, li_99999, li_7654321] <;> omega, fun a2 q2 => ⟨fun z => ⟨by simp (disch := omega) only [jn_le, jn_lt, jn_eq, jn_in, jn_add, jn_sub, jn_mul, jn_neg, li_0, li_1, li_2, li_3, li_4, li_5, li_6, li_7, li_8, li_9, li_10, li_11, li_12, li_13, li_14, li_15, li_16, li_17, li_18, li_20, li_24, li_29, li_30, li_31, li_32, li_37, li_39, li_40, li_42, li_43, li_45, li_46, li_47, li_48, li_53, li_57, li_59, li_60, li_61, li_62, li_63, li_80, li_81, li_91, li_93, li_97, li_100, li_122, li_200, li_255, li_256, li_257, li_258, li_259, li_260, li_300, li_314, li_400, li_580, li_999, li_5040, li_9999, li_65536, li_99999, li_7654321] <;> omega, fun a3 q3 => ⟨by rw [e0]; exact by simp (disch := omega) only [jn_le, jn_lt, jn_eq, jn_in, jn_add, jn_sub, jn_mul, jn_neg, li_0, li_1, li_2, li_3, li_4, li_5, li_6, li_7, li_8, li_9, li_10, li_11, li_12, li_13, li_14, li_15, li_16, li_17, li_18, li_20, li_24, li_29, li_30, li_31, li_32, li_37, li_39, li_40, li_42, li_43, li_45, li_46, li_47, li_48, li_53, li_57, li_59, li_60, li_61, li_62, li_63, li_80, li_81, li_91, li_93, li_97, li_100, li_122, li_200, li_255, li_256, li_257, li_258, li_259, li_260, li_300, li_314, li_400, li_580, li_999, li_5040, li_9999, li_65536, li_99999, li_7654321] <;> omega, fun a4 q4 => ?_⟩⟩, fun z => ⟨by rw [e2]; exact by simp (disch := omega) only [jn_le, jn_lt, jn_eq, jn_in, jn_add, jn_sub, jn_mul, jn_neg, li_0, li_1, li_2, li_3, li_4, li_5, li_6, li_7, li_8, li_9, li_10, li_11, li_12, li_13, li_14, li_15, li_16, li_17, li_18, li_20, li_24, li_29, li_30, li_31, li_32, li_37, li_39, li_40, li_42, li_43, li_45, li_46, li_47, li_48, li_53, li_57, li_59, li_60, li_61, li_62, li_63, li_80, li_81, li_91, li_93, li_97, li_100, li_122, li_200, li_255, li_256, li_257, li_258, li_259, li_260, li_300, li_314, li_400, li_580, li_999, li_5040, li_9999, li_65536, li_99999, li_7654321] <;> omega, by simp (disch := omega) only [jn_le, jn_lt, jn_eq, jn_in, jn_add, jn_sub, jn_mul, jn_neg, li_0, li_1, li_2, li_3, li_4, li_5, li_6, li_7, li_8, li_9, li_10, li_11, li_12, li_13, li_14, li_15, li_16, li_17, li_18, li_20, li_24, li_29, li_30, li_31, li_32, li_37, li_39, li_40, li_42, li_43, li_45, li_46, li_47, li_48, li_53, li_57, li_59, li_60, li_61, li_62, li_63, li_80, li_81, li_91, li_93, li_97, li_100, li_122, li_200, li_255, li_256, li_257, li_258, li_259, li_260, li_300, li_314, li_400, li_580, li_999, li_5040, li_9999, li_65536, li_99999, li_7654321] <;> omega, fun a3 q3 => ⟨by rw [e0]; exact by simp (disch := omega) only [jn_le, jn_lt, jn_eq, jn_in, jn_add, jn_sub, jn_mul, jn_neg, li_0, li_1, li_2, li_3, li_4, li_5, li_6, li_7, li_8, li_9, li_10, li_11, li_12, li_13, li_14, li_15, li_16, li_17, li_18, li_20, li_24, li_29, li_30, li_31, li_32, li_37, li_39, li_40, li_42, li_43, li_45, li_46, li_47, li_48, li_53, li_57, li_59, li_60, li_61, li_62, li_63, li_80, li_81, li_91, li_93, li_97, li_100, li_122, li_200, li_255, li_256, li_257, li_258, li_259, li_260, li_300, li_314, li_400, li_580, li_999, li_5040, li_9999, li_65536, li_99999, li_7654321] <;> omega, fun a4 q4 => ?_⟩⟩⟩⟩⟩, fun z => ?_⟩⟩⟩⟩
    · simp (disch := omega) only [jn_le, jn_lt, jn_eq, jn_in, jn_add, jn_sub, jn_mul, jn_neg, li_0, li_1, li_2, li_3, li_4, li_5, li_6, li_7, li_8, li_9, li_10, li_11, li_12, li_13, li_14, li_15, li_16, li_17, li_18, li_20, li_24, li_29, li_30, li_31, li_32, li_37, li_39, li_40, li_42, li_43, li_45, li_46, li_47, li_48, li_53, li_57, li_59, li_60, li_61, li_62, li_63, li_80, li_81, li_91, li_93, li_97, li_100, li_122, li_200, li_255, li_256, li_257, li_258, li_259, li_260, li_300, li_314, li_400, li_580, li_999, li_5040, li_9999, li_65536, li_99999, li_7654321] at z; omega
    · rw [e0] at z; simp (disch := omega) only [jn_le, jn_lt, jn_eq, jn_in, jn_add, jn_sub, jn_mul, jn_neg, li_0, li_1, li_2, li_3, li_4, li_5, li_6, li_7, li_8, li_9, li_10, li_11, li_12, li_13, li_14, li_15, li_16, li_17, li_18, li_20, li_24, li_29, li_30, li_31, li_32, li_37, li_39, li_40, li_42, li_43, li_45, li_46, li_47, li_48, li_53, li_57, li_59, li_60, li_61, li_62, li_63, li_80, li_81, li_91, li_93, li_97, li_100, li_122, li_200, li_255, li_256, li_257, li_258, li_259, li_260, li_300, li_314, li_400, li_580, li_999, li_5040, li_9999, li_65536, li_99999, li_7654321] at z; omega
    · rw [e0] at z; simp (disch := omega) only [jn_le, jn_lt, jn_eq, jn_in, jn_add, jn_sub, jn_mul, jn_neg, li_0, li_1, li_2, li_3, li_4, li_5, li_6, li_7, li_8, li_9, li_10, li_11, li_12, li_13, li_14, li_15, li_16, li_17, li_18, li_20, li_24, li_29, li_30, li_31, li_32, li_37, li_39, li_40, li_42, li_43, li_45, li_46, li_47, li_48, li_53, li_57, li_59, li_60, li_61, li_62, li_63, li_80, li_81, li_91, li_93, li_97, li_100, li_122, li_200, li_255, li_256, li_257, li_258, li_259, li_260, li_300, li_314, li_400, li_580, li_999, li_5040, li_9999, li_65536, li_99999, li_7654321] at z; omega
    · rw [li_0, jn_eq (by omega) (by omega)] at z
      have hF0 : F = 0 := by omega
      rw [jn_cln (by omega)] at q1 q2 q3
      rw [e0, jn_cln (by omega), show jn (F : Int) + (1 : Int32) = jn ((F + 1 : Nat) : Int) from by (first | rfl | (simp (disch := omega) only [jn_add, jn_sub, jn_mul, jn_neg, li_0, li_1, li_2, li_3, li_4, li_5, li_6, li_7, li_8, li_9, li_10, li_11, li_12, li_13, li_14, li_15, li_16, li_17, li_18, li_20, li_24, li_29, li_30, li_31, li_32, li_37, li_39, li_40, li_42, li_43, li_45, li_46, li_47, li_48, li_53, li_57, li_59, li_60, li_61, li_62, li_63, li_80, li_81, li_91, li_93, li_97, li_100, li_122, li_200, li_255, li_256, li_257, li_258, li_259, li_260, li_300, li_314, li_400, li_580, li_999, li_5040, li_9999, li_65536, li_99999, li_7654321] <;> first | rfl | exact congrArg jn (by omega)) | exact congrArg jn (by omega))] at q4
      rw [e2, e3, jn_pl hl] at q2
      rw [show jn (F : Int) + (1 : Int32) = jn ((F + 1 : Nat) : Int) from by (first | rfl | (simp (disch := omega) only [jn_add, jn_sub, jn_mul, jn_neg, li_0, li_1, li_2, li_3, li_4, li_5, li_6, li_7, li_8, li_9, li_10, li_11, li_12, li_13, li_14, li_15, li_16, li_17, li_18, li_20, li_24, li_29, li_30, li_31, li_32, li_37, li_39, li_40, li_42, li_43, li_45, li_46, li_47, li_48, li_53, li_57, li_59, li_60, li_61, li_62, li_63, li_80, li_81, li_91, li_93, li_97, li_100, li_122, li_200, li_255, li_256, li_257, li_258, li_259, li_260, li_300, li_314, li_400, li_580, li_999, li_5040, li_9999, li_65536, li_99999, li_7654321] <;> first | rfl | exact congrArg jn (by omega)) | exact congrArg jn (by omega))]
      refine hA hj' _ _ _ _ _ (fin a1 a2 a3 a4 q1 q2 ?_ q4)
      rw [q3, if_pos hF0]; rfl
    · rw [li_0, jn_eq (by omega) (by omega)] at z
      have hF0 : F ≠ 0 := by omega
      have hdi := c3 i (by omega)
      rw [jn_cln (by omega)] at q1 q2 q3
      rw [e2, jn_cln (by omega), hdi.2.2.2.1] at q3
      rw [e0, jn_cln (by omega), show jn (F : Int) + (1 : Int32) = jn ((F + 1 : Nat) : Int) from by (first | rfl | (simp (disch := omega) only [jn_add, jn_sub, jn_mul, jn_neg, li_0, li_1, li_2, li_3, li_4, li_5, li_6, li_7, li_8, li_9, li_10, li_11, li_12, li_13, li_14, li_15, li_16, li_17, li_18, li_20, li_24, li_29, li_30, li_31, li_32, li_37, li_39, li_40, li_42, li_43, li_45, li_46, li_47, li_48, li_53, li_57, li_59, li_60, li_61, li_62, li_63, li_80, li_81, li_91, li_93, li_97, li_100, li_122, li_200, li_255, li_256, li_257, li_258, li_259, li_260, li_300, li_314, li_400, li_580, li_999, li_5040, li_9999, li_65536, li_99999, li_7654321] <;> first | rfl | exact congrArg jn (by omega)) | exact congrArg jn (by omega))] at q4
      rw [e2, e3, jn_pl hl] at q2
      rw [show jn (F : Int) + (1 : Int32) = jn ((F + 1 : Nat) : Int) from by (first | rfl | (simp (disch := omega) only [jn_add, jn_sub, jn_mul, jn_neg, li_0, li_1, li_2, li_3, li_4, li_5, li_6, li_7, li_8, li_9, li_10, li_11, li_12, li_13, li_14, li_15, li_16, li_17, li_18, li_20, li_24, li_29, li_30, li_31, li_32, li_37, li_39, li_40, li_42, li_43, li_45, li_46, li_47, li_48, li_53, li_57, li_59, li_60, li_61, li_62, li_63, li_80, li_81, li_91, li_93, li_97, li_100, li_122, li_200, li_255, li_256, li_257, li_258, li_259, li_260, li_300, li_314, li_400, li_580, li_999, li_5040, li_9999, li_65536, li_99999, li_7654321] <;> first | rfl | exact congrArg jn (by omega)) | exact congrArg jn (by omega))]
      refine hA hj' _ _ _ _ _ (fin a1 a2 a3 a4 q1 q2 ?_ q4)
      rw [q3, if_neg hF0, li_1, jn_add]
      rfl
    · rw [e0, jn_cln (by omega), hw] at z
      exact absurd rfl z
end CAD
