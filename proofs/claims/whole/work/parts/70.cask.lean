/-! class Reach: what is asked of all that can be reached -/
theorem onum_le {m : Nat} {r : Nat → Nat} (hm : m ≤ 7) (h : Pm m r) : onum r m ≤ 7654321 := by
  by_cases e : m = 7
  · subst e
    have hv : Pm 7 (fun i => 6 - i) := ⟨fun p hp => by show 6 - p < 7; omega, fun p q a b e => by have e' : 6 - p = 6 - q := e; omega, fun c hc => ⟨6 - c, by omega, by show 6 - (6 - c) = c; omega⟩⟩
    have h1 := rk_lt (r := r) hm
    have h2 : rk 7 (fun i => 6 - i) = 5039 := by decide +kernel
    have h3 := rk_mono hm h hv (by omega)
    have h4 : onum (fun i => 6 - i) 7 = 7654321 := by decide +kernel
    omega
  · have h1 := dt_lt hm h (Nat.le_refl m)
    rw [onum_all]
    have h2 : 10 ^ m ≤ 10 ^ 6 := Nat.pow_le_pow_right (by omega) (by omega)
    omega
section CAS
variable {N m F : Nat} {Q : Nat → Nat → Nat} {pa la dp : Nat → Nat} {fo : Int32} {wh rw' fr de : Nat → Int32}
theorem wl_within {n : Nat} {K : Int32 → Prop} {x : Int32} (hN : 6000 ≤ N) (hB : cB m F Q pa la dp fo wh rw' fr de) (hn : n ≤ 9999) (hx : x = jn n) (h : K (jn (cnt (fun j => decide (dp j ≤ n)) F : Int))) : wp_X5_within N fo de K x := by
  obtain ⟨c1, c2, c3, c4⟩ := hB
  unfold wp_X5_within
  subst c1
  have key : ∀ (k j : Nat) (v2 v3 : Int32), v3 = jn j → j ≤ F → v2 = jn (cnt (fun j => decide (dp j ≤ n)) j : Int) → F < k + j → wp_X5_within_4 N (jn F) de K k x v2 v3 := by
    intro k
    induction k with
    | zero => intro j v2 v3 _ h1 _ h2; omega
    | succ k ih =>
      intro j v2 v3 e3 hj e2 hk
      unfold wp_X5_within_4 wp_X5_within_28
      subst e3
      refine ⟨fun z => ?_, fun z => ?_⟩
      · simp (disch := omega) only [jn_le, jn_lt, jn_eq, jn_in, jn_add, jn_sub, jn_mul, jn_neg, li_0, li_1, li_2, li_3, li_4, li_5, li_6, li_7, li_8, li_9, li_10, li_11, li_12, li_13, li_14, li_15, li_16, li_17, li_18, li_20, li_24, li_29, li_30, li_31, li_32, li_37, li_39, li_40, li_42, li_43, li_45, li_46, li_47, li_48, li_53, li_57, li_59, li_60, li_61, li_62, li_63, li_80, li_81, li_91, li_93, li_97, li_100, li_122, li_200, li_255, li_256, li_257, li_258, li_259, li_260, li_300, li_314, li_400, li_580, li_999, li_5040, li_9999, li_65536, li_99999, li_7654321] at z
        have e : j = F := by omega
        subst e; rw [e2]; exact h
      · simp (disch := omega) only [jn_le, jn_lt, jn_eq, jn_in, jn_add, jn_sub, jn_mul, jn_neg, li_0, li_1, li_2, li_3, li_4, li_5, li_6, li_7, li_8, li_9, li_10, li_11, li_12, li_13, li_14, li_15, li_16, li_17, li_18, li_20, li_24, li_29, li_30, li_31, li_32, li_37, li_39, li_40, li_42, li_43, li_45, li_46, li_47, li_48, li_53, li_57, li_59, li_60, li_61, li_62, li_63, li_80, li_81, li_91, li_93, li_97, li_100, li_122, li_200, li_255, li_256, li_257, li_258, li_259, li_260, li_300, li_314, li_400, li_580, li_999, li_5040, li_9999, li_65536, li_99999, li_7654321] at z
        obtain ⟨-, -, -, g4, -, -, -, g8⟩ := c3 j (by omega)
        refine ⟨by simp (disch := omega) only [jn_le, jn_lt, jn_eq, jn_in, jn_add, jn_sub, jn_mul, jn_neg, li_0, li_1, li_2, li_3, li_4, li_5, li_6, li_7, li_8, li_9, li_10, li_11, li_12, li_13, li_14, li_15, li_16, li_17, li_18, li_20, li_24, li_29, li_30, li_31, li_32, li_37, li_39, li_40, li_42, li_43, li_45, li_46, li_47, li_48, li_53, li_57, li_59, li_60, li_61, li_62, li_63, li_80, li_81, li_91, li_93, li_97, li_100, li_122, li_200, li_255, li_256, li_257, li_258, li_259, li_260, li_300, li_314, li_400, li_580, li_999, li_5040, li_9999, li_65536, li_99999, li_7654321] <;> omega, ?_⟩
        rw [jn_cln (by omega), g4, hx, jn_lt (by omega) (by omega)]
        rw [hx] at ih
        refine ⟨fun y x1 e1 => ?_, fun y x1 e1 => ?_⟩
        · refine ih (j + 1) _ _ (by (first | rfl | (simp (disch := omega) only [jn_add, jn_sub, jn_mul, jn_neg, li_0, li_1, li_2, li_3, li_4, li_5, li_6, li_7, li_8, li_9, li_10, li_11, li_12, li_13, li_14, li_15, li_16, li_17, li_18, li_20, li_24, li_29, li_30, li_31, li_32, li_37, li_39, li_40, li_42, li_43, li_45, li_46, li_47, li_48, li_53, li_57, li_59, li_60, li_61, li_62, li_63, li_80, li_81, li_91, li_93, li_97, li_100, li_122, li_200, li_255, li_256, li_257, li_258, li_259, li_260, li_300, li_314, li_400, li_580, li_999, li_5040, li_9999, li_65536, li_99999, li_7654321] <;> first | rfl | exact congrArg jn (by omega)) | exact congrArg jn (by omega))) (by omega) ?_ (by omega)
          rw [e1, e2, cnt_succ, if_neg (by simp only [decide_eq_true_eq]; omega), li_0, jn_add]; rfl
        · refine ih (j + 1) _ _ (by (first | rfl | (simp (disch := omega) only [jn_add, jn_sub, jn_mul, jn_neg, li_0, li_1, li_2, li_3, li_4, li_5, li_6, li_7, li_8, li_9, li_10, li_11, li_12, li_13, li_14, li_15, li_16, li_17, li_18, li_20, li_24, li_29, li_30, li_31, li_32, li_37, li_39, li_40, li_42, li_43, li_45, li_46, li_47, li_48, li_53, li_57, li_59, li_60, li_61, li_62, li_63, li_80, li_81, li_91, li_93, li_97, li_100, li_122, li_200, li_255, li_256, li_257, li_258, li_259, li_260, li_300, li_314, li_400, li_580, li_999, li_5040, li_9999, li_65536, li_99999, li_7654321] <;> first | rfl | exact congrArg jn (by omega)) | exact congrArg jn (by omega))) (by omega) ?_ (by omega)
          rw [e1, e2, cnt_succ, if_pos (by simp only [decide_eq_true_eq]; omega), li_1, jn_add]; rfl
  exact key N 0 _ _ rfl (by omega) rfl (by omega)
theorem wl_most {K : Int32 → Prop} (hB : cB m F Q pa la dp fo wh rw' fr de) (hF : 0 < F) (h : K (jn (dp (F - 1) : Int))) : wp_X5_most N fo de K := by
  obtain ⟨c1, c2, c3, c4⟩ := hB
  unfold wp_X5_most wp_X5_most_22
  subst c1
  refine ⟨fun z => ?_, fun z => ?_⟩
  · simp (disch := omega) only [jn_le, jn_lt, jn_eq, jn_in, jn_add, jn_sub, jn_mul, jn_neg, li_0, li_1, li_2, li_3, li_4, li_5, li_6, li_7, li_8, li_9, li_10, li_11, li_12, li_13, li_14, li_15, li_16, li_17, li_18, li_20, li_24, li_29, li_30, li_31, li_32, li_37, li_39, li_40, li_42, li_43, li_45, li_46, li_47, li_48, li_53, li_57, li_59, li_60, li_61, li_62, li_63, li_80, li_81, li_91, li_93, li_97, li_100, li_122, li_200, li_255, li_256, li_257, li_258, li_259, li_260, li_300, li_314, li_400, li_580, li_999, li_5040, li_9999, li_65536, li_99999, li_7654321] at z; omega
  · rw [show jn (F : Int) - (1 : Int32) = jn ((F - 1 : Nat) : Int) from by (first | rfl | (simp (disch := omega) only [jn_add, jn_sub, jn_mul, jn_neg, li_0, li_1, li_2, li_3, li_4, li_5, li_6, li_7, li_8, li_9, li_10, li_11, li_12, li_13, li_14, li_15, li_16, li_17, li_18, li_20, li_24, li_29, li_30, li_31, li_32, li_37, li_39, li_40, li_42, li_43, li_45, li_46, li_47, li_48, li_53, li_57, li_59, li_60, li_61, li_62, li_63, li_80, li_81, li_91, li_93, li_97, li_100, li_122, li_200, li_255, li_256, li_257, li_258, li_259, li_260, li_300, li_314, li_400, li_580, li_999, li_5040, li_9999, li_65536, li_99999, li_7654321] <;> first | rfl | exact congrArg jn (by omega)) | exact congrArg jn (by omega))]
    refine ⟨by simp (disch := omega) only [jn_le, jn_lt, jn_eq, jn_in, jn_add, jn_sub, jn_mul, jn_neg, li_0, li_1, li_2, li_3, li_4, li_5, li_6, li_7, li_8, li_9, li_10, li_11, li_12, li_13, li_14, li_15, li_16, li_17, li_18, li_20, li_24, li_29, li_30, li_31, li_32, li_37, li_39, li_40, li_42, li_43, li_45, li_46, li_47, li_48, li_53, li_57, li_59, li_60, li_61, li_62, li_63, li_80, li_81, li_91, li_93, li_97, li_100, li_122, li_200, li_255, li_256, li_257, li_258, li_259, li_260, li_300, li_314, li_400, li_580, li_999, li_5040, li_9999, li_65536, li_99999, li_7654321] <;> omega, ?_⟩
    rw [jn_cln (by omega), (c3 (F - 1) (by omega)).2.2.2.1]; exact h
theorem wl_numberOf {r : Nat → Nat} {K : Int32 → Prop} {x : Int32} (hN : 10 ≤ N) (hm : m ≤ 7) (h8 : ∀ i, i < m → r i < 8) (hx : x = jn (p8 m r : Int)) (h : K (jn (onum r m : Int))) : wp_X5_numberOf N (jn m) K x := by
  unfold wp_X5_numberOf
  subst hx
  have key : ∀ (k j : Nat) (v2 v3 : Int32), v3 = jn j → j ≤ m → v2 = jn (onum r j : Int) → m < k + j → wp_X5_numberOf_4 N (jn m) K k (jn (p8 m r : Int)) v2 v3 := by
    intro k
    induction k with
    | zero => intro j v2 v3 _ h1 _ h2; omega
    | succ k ih =>
      intro j v2 v3 e3 hj e2 hk
      unfold wp_X5_numberOf_4
      subst e3
      refine ⟨fun z => ?_, fun z x1 e1 => ?_⟩
      · simp (disch := omega) only [jn_le, jn_lt, jn_eq, jn_in, jn_add, jn_sub, jn_mul, jn_neg, li_0, li_1, li_2, li_3, li_4, li_5, li_6, li_7, li_8, li_9, li_10, li_11, li_12, li_13, li_14, li_15, li_16, li_17, li_18, li_20, li_24, li_29, li_30, li_31, li_32, li_37, li_39, li_40, li_42, li_43, li_45, li_46, li_47, li_48, li_53, li_57, li_59, li_60, li_61, li_62, li_63, li_80, li_81, li_91, li_93, li_97, li_100, li_122, li_200, li_255, li_256, li_257, li_258, li_259, li_260, li_300, li_314, li_400, li_580, li_999, li_5040, li_9999, li_65536, li_99999, li_7654321] at z
        have e : j = m := by omega
        subst e; rw [e2]; exact h
      · simp (disch := omega) only [jn_le, jn_lt, jn_eq, jn_in, jn_add, jn_sub, jn_mul, jn_neg, li_0, li_1, li_2, li_3, li_4, li_5, li_6, li_7, li_8, li_9, li_10, li_11, li_12, li_13, li_14, li_15, li_16, li_17, li_18, li_20, li_24, li_29, li_30, li_31, li_32, li_37, li_39, li_40, li_42, li_43, li_45, li_46, li_47, li_48, li_53, li_57, li_59, li_60, li_61, li_62, li_63, li_80, li_81, li_91, li_93, li_97, li_100, li_122, li_200, li_255, li_256, li_257, li_258, li_259, li_260, li_300, li_314, li_400, li_580, li_999, li_5040, li_9999, li_65536, li_99999, li_7654321] at z
        refine ih (j + 1) _ _ (by (first | rfl | (simp (disch := omega) only [jn_add, jn_sub, jn_mul, jn_neg, li_0, li_1, li_2, li_3, li_4, li_5, li_6, li_7, li_8, li_9, li_10, li_11, li_12, li_13, li_14, li_15, li_16, li_17, li_18, li_20, li_24, li_29, li_30, li_31, li_32, li_37, li_39, li_40, li_42, li_43, li_45, li_46, li_47, li_48, li_53, li_57, li_59, li_60, li_61, li_62, li_63, li_80, li_81, li_91, li_93, li_97, li_100, li_122, li_200, li_255, li_256, li_257, li_258, li_259, li_260, li_300, li_314, li_400, li_580, li_999, li_5040, li_9999, li_65536, li_99999, li_7654321] <;> first | rfl | exact congrArg jn (by omega)) | exact congrArg jn (by omega))) (by omega) ?_ (by omega)
        rw [e1, p8_sh hm h8 (by omega), e2, onum]
        exact by (first | rfl | (simp (disch := omega) only [jn_add, jn_sub, jn_mul, jn_neg, li_0, li_1, li_2, li_3, li_4, li_5, li_6, li_7, li_8, li_9, li_10, li_11, li_12, li_13, li_14, li_15, li_16, li_17, li_18, li_20, li_24, li_29, li_30, li_31, li_32, li_37, li_39, li_40, li_42, li_43, li_45, li_46, li_47, li_48, li_53, li_57, li_59, li_60, li_61, li_62, li_63, li_80, li_81, li_91, li_93, li_97, li_100, li_122, li_200, li_255, li_256, li_257, li_258, li_259, li_260, li_300, li_314, li_400, li_580, li_999, li_5040, li_9999, li_65536, li_99999, li_7654321] <;> first | rfl | exact congrArg jn (by omega)) | exact congrArg jn (by omega))
  exact key N 0 _ _ rfl (by omega) rfl (by omega)
theorem wl_soonest {c : Nat} {K : Int32 → Prop} {x : Int32} (hN : 6000 ≤ N) (hm : m ≤ 7) (hB : cB m F Q pa la dp fo wh rw' fr de) (hc : c < m) (hx : x = jn c) (h1 : ∀ j, j < F → Q j 0 = c → (∀ i, i < j → Q i 0 ≠ c) → K (jn (dp j : Int))) (h2 : (∀ j, j < F → Q j 0 ≠ c) → K (-2)) : wp_X5_soonestFirst N fo rw' de K x := by
  obtain ⟨c1, c2, c3, c4⟩ := hB
  unfold wp_X5_soonestFirst
  subst c1 hx
  have key : ∀ (k j : Nat) (v2 : Int32), v2 = jn j → j ≤ F → (∀ i, i < j → Q i 0 ≠ c) → F < k + j → wp_X5_soonestFirst_2 N (jn F) rw' de K k (jn c) v2 := by
    intro k
    induction k with
    | zero => intro j v2 _ h1 _ h2; omega
    | succ k ih =>
      intro j v2 e2 hj ha hk
      unfold wp_X5_soonestFirst_2
      subst e2
      refine ⟨fun z => ?_, fun z => ?_⟩
      · simp (disch := omega) only [jn_le, jn_lt, jn_eq, jn_in, jn_add, jn_sub, jn_mul, jn_neg, li_0, li_1, li_2, li_3, li_4, li_5, li_6, li_7, li_8, li_9, li_10, li_11, li_12, li_13, li_14, li_15, li_16, li_17, li_18, li_20, li_24, li_29, li_30, li_31, li_32, li_37, li_39, li_40, li_42, li_43, li_45, li_46, li_47, li_48, li_53, li_57, li_59, li_60, li_61, li_62, li_63, li_80, li_81, li_91, li_93, li_97, li_100, li_122, li_200, li_255, li_256, li_257, li_258, li_259, li_260, li_300, li_314, li_400, li_580, li_999, li_5040, li_9999, li_65536, li_99999, li_7654321] at z
        exact h2 (fun i hi => ha i (by omega))
      · simp (disch := omega) only [jn_le, jn_lt, jn_eq, jn_in, jn_add, jn_sub, jn_mul, jn_neg, li_0, li_1, li_2, li_3, li_4, li_5, li_6, li_7, li_8, li_9, li_10, li_11, li_12, li_13, li_14, li_15, li_16, li_17, li_18, li_20, li_24, li_29, li_30, li_31, li_32, li_37, li_39, li_40, li_42, li_43, li_45, li_46, li_47, li_48, li_53, li_57, li_59, li_60, li_61, li_62, li_63, li_80, li_81, li_91, li_93, li_97, li_100, li_122, li_200, li_255, li_256, li_257, li_258, li_259, li_260, li_300, li_314, li_400, li_580, li_999, li_5040, li_9999, li_65536, li_99999, li_7654321] at z
        obtain ⟨g1, g2, -, g4, -⟩ := c3 j (by omega)
        refine ⟨by simp (disch := omega) only [jn_le, jn_lt, jn_eq, jn_in, jn_add, jn_sub, jn_mul, jn_neg, li_0, li_1, li_2, li_3, li_4, li_5, li_6, li_7, li_8, li_9, li_10, li_11, li_12, li_13, li_14, li_15, li_16, li_17, li_18, li_20, li_24, li_29, li_30, li_31, li_32, li_37, li_39, li_40, li_42, li_43, li_45, li_46, li_47, li_48, li_53, li_57, li_59, li_60, li_61, li_62, li_63, li_80, li_81, li_91, li_93, li_97, li_100, li_122, li_200, li_255, li_256, li_257, li_258, li_259, li_260, li_300, li_314, li_400, li_580, li_999, li_5040, li_9999, li_65536, li_99999, li_7654321] <;> omega, ?_⟩
        have e7 := p8_sh (q := 0) hm (Pm8 hm g1) (by omega)
        rw [show ((3 : Int32) * jn ((0 : Nat) : Int)) &&& 31 = 0 from rfl, show jn (p8 m (Q j) : Int) >>> (0 : Int32) = jn (p8 m (Q j) : Int) from Int32.shiftRight_zero] at e7
        have hq := g1.1 0 (by omega)
        rw [jn_cln (by omega), g2, e7, jn_eq (by omega) (by omega), g4]
        refine ⟨fun y => ⟨by simp (disch := omega) only [jn_le, jn_lt, jn_eq, jn_in, jn_add, jn_sub, jn_mul, jn_neg, li_0, li_1, li_2, li_3, li_4, li_5, li_6, li_7, li_8, li_9, li_10, li_11, li_12, li_13, li_14, li_15, li_16, li_17, li_18, li_20, li_24, li_29, li_30, li_31, li_32, li_37, li_39, li_40, li_42, li_43, li_45, li_46, li_47, li_48, li_53, li_57, li_59, li_60, li_61, li_62, li_63, li_80, li_81, li_91, li_93, li_97, li_100, li_122, li_200, li_255, li_256, li_257, li_258, li_259, li_260, li_300, li_314, li_400, li_580, li_999, li_5040, li_9999, li_65536, li_99999, li_7654321] <;> omega, h1 j (by omega) (by omega) ha⟩, fun y => ?_⟩
        refine ih (j + 1) _ (by (first | rfl | (simp (disch := omega) only [jn_add, jn_sub, jn_mul, jn_neg, li_0, li_1, li_2, li_3, li_4, li_5, li_6, li_7, li_8, li_9, li_10, li_11, li_12, li_13, li_14, li_15, li_16, li_17, li_18, li_20, li_24, li_29, li_30, li_31, li_32, li_37, li_39, li_40, li_42, li_43, li_45, li_46, li_47, li_48, li_53, li_57, li_59, li_60, li_61, li_62, li_63, li_80, li_81, li_91, li_93, li_97, li_100, li_122, li_200, li_255, li_256, li_257, li_258, li_259, li_260, li_300, li_314, li_400, li_580, li_999, li_5040, li_9999, li_65536, li_99999, li_7654321] <;> first | rfl | exact congrArg jn (by omega)) | exact congrArg jn (by omega))) (by omega) (fun i hi => ?_) (by omega)
        by_cases e : i = j
        · rw [e]; omega
        · exact ha i (by omega)
  exact key N 0 _ rfl (by omega) (fun i hi => by omega) (by omega)
end CAS
