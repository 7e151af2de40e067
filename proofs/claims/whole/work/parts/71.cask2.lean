/-! class Reach: what is asked, on -/
theorem jn_div {a : Int} {k : Nat} (ha : -2147483648 ≤ a ∧ a < 2147483648) (hk : 1 < k ∧ k < 10000) : jn a / jn (k : Int) = jn (a.tdiv k) := by
  have h1 : -2147483648 ≤ a.tdiv k ∧ a.tdiv k < 2147483648 := by
    have h2 : (a.tdiv k).natAbs ≤ a.natAbs := by rw [Int.natAbs_tdiv]; exact Nat.div_le_self _ _
    have h3 : 0 ≤ a → 0 ≤ a.tdiv k := fun h => Int.tdiv_nonneg h (by omega)
    by_cases h : 0 ≤ a
    · have := h3 h; omega
    · have h4 : a.tdiv k ≤ 0 := by
        have := Int.tdiv_nonneg (a := -a) (b := (k : Int)) (by omega) (by omega)
        rw [Int.neg_tdiv] at this; omega
      omega
  rw [← Int32.toInt_inj, Int32.toInt_div, jn_toInt (by omega), jn_toInt (by omega), jn_toInt (by omega)]
  rw [Int.bmod_def]
  split <;> omega
theorem jn_div10 {a : Nat} (ha : a < 2147483648) : jn (a : Int) / (10 : Int32) = jn ((a / 10 : Nat) : Int) := by
  rw [show (10 : Int32) = jn ((10 : Nat) : Int) from rfl, jn_div (by omega) (by omega)]
  exact congrArg jn (Int.ofNat_tdiv a 10).symm
section CAS2
variable {N m F : Nat} {Q : Nat → Nat → Nat} {pa la dp : Nat → Nat} {fo : Int32} {wh rw' fr de : Nat → Int32}
theorem wl_far {K : Int32 → Prop} (hN : 6000 ≤ N) (hm : m ≤ 7) (hB : cB m F Q pa la dp fo wh rw' fr de) (hF : 0 < F) (h : ∀ x, (∃ j, j < F ∧ dp j = dp (F - 1) ∧ onum (Q j) m = x) → (∀ j, j < F → dp j = dp (F - 1) → x ≤ onum (Q j) m) → K (jn (x : Int))) : wp_X5_farthestOrder N (jn m) fo rw' de K := by
  have hB' := hB
  obtain ⟨c1, c2, c3, c4⟩ := hB
  unfold wp_X5_farthestOrder
  subst c1
  have key : ∀ (k j x : Nat) (v1 v2 : Int32), v2 = jn j → v1 = jn x → j ≤ F → (x = 7654321 ∨ ∃ i, i < j ∧ dp i = dp (F - 1) ∧ onum (Q i) m = x) → (∀ i, i < j → dp i = dp (F - 1) → x ≤ onum (Q i) m) → x ≤ 7654321 → F < k + j → wp_X5_farthestOrder_5 N (jn m) (jn F) rw' de K k v1 v2 := by
    intro k
    induction k with
    | zero => intro j x v1 v2 _ _ h1 _ _ _ h2; omega
    | succ k ih =>
      intro j x v1 v2 e2 e1 hj ha hb hx hk
      unfold wp_X5_farthestOrder_5 wp_X5_farthestOrder_41
      subst e2
      refine ⟨fun z => ?_, fun z => ?_⟩
      · simp (disch := omega) only [jn_le, jn_lt, jn_eq, jn_in, jn_add, jn_sub, jn_mul, jn_neg, li_0, li_1, li_2, li_3, li_4, li_5, li_6, li_7, li_8, li_9, li_10, li_11, li_12, li_13, li_14, li_15, li_16, li_17, li_18, li_20, li_24, li_29, li_30, li_31, li_32, li_37, li_39, li_40, li_42, li_43, li_45, li_46, li_47, li_48, li_53, li_57, li_59, li_60, li_61, li_62, li_63, li_80, li_81, li_91, li_93, li_97, li_100, li_122, li_200, li_255, li_256, li_257, li_258, li_259, li_260, li_300, li_314, li_400, li_580, li_999, li_5040, li_9999, li_65536, li_99999, li_7654321] at z
        have e : j = F := by omega
        subst e
        rw [e1]
        refine h x ?_ hb
        rcases ha with ha | ha
        · have h1 := hb (j - 1) (by omega) rfl
          have h2 := onum_le hm (c3 (j - 1) (by omega)).1
          exact ⟨j - 1, by omega, rfl, by omega⟩
        · exact ha
      · simp (disch := omega) only [jn_le, jn_lt, jn_eq, jn_in, jn_add, jn_sub, jn_mul, jn_neg, li_0, li_1, li_2, li_3, li_4, li_5, li_6, li_7, li_8, li_9, li_10, li_11, li_12, li_13, li_14, li_15, li_16, li_17, li_18, li_20, li_24, li_29, li_30, li_31, li_32, li_37, li_39, li_40, li_42, li_43, li_45, li_46, li_47, li_48, li_53, li_57, li_59, li_60, li_61, li_62, li_63, li_80, li_81, li_91, li_93, li_97, li_100, li_122, li_200, li_255, li_256, li_257, li_258, li_259, li_260, li_300, li_314, li_400, li_580, li_999, li_5040, li_9999, li_65536, li_99999, li_7654321] at z
        obtain ⟨g1, g2, -, g4, -, -, -, g8⟩ := c3 j (by omega)
        obtain ⟨-, -, -, -, -, -, -, f8⟩ := c3 (F - 1) (by omega)
        have ho := onum_le hm g1
        refine ⟨by simp (disch := omega) only [jn_le, jn_lt, jn_eq, jn_in, jn_add, jn_sub, jn_mul, jn_neg, li_0, li_1, li_2, li_3, li_4, li_5, li_6, li_7, li_8, li_9, li_10, li_11, li_12, li_13, li_14, li_15, li_16, li_17, li_18, li_20, li_24, li_29, li_30, li_31, li_32, li_37, li_39, li_40, li_42, li_43, li_45, li_46, li_47, li_48, li_53, li_57, li_59, li_60, li_61, li_62, li_63, li_80, li_81, li_91, li_93, li_97, li_100, li_122, li_200, li_255, li_256, li_257, li_258, li_259, li_260, li_300, li_314, li_400, li_580, li_999, li_5040, li_9999, li_65536, li_99999, li_7654321] <;> omega, wl_most hB' hF ?_⟩
        rw [jn_cln (by omega), g4, jn_eq (by omega) (by omega)]
        refine ⟨fun y => ⟨by simp (disch := omega) only [jn_le, jn_lt, jn_eq, jn_in, jn_add, jn_sub, jn_mul, jn_neg, li_0, li_1, li_2, li_3, li_4, li_5, li_6, li_7, li_8, li_9, li_10, li_11, li_12, li_13, li_14, li_15, li_16, li_17, li_18, li_20, li_24, li_29, li_30, li_31, li_32, li_37, li_39, li_40, li_42, li_43, li_45, li_46, li_47, li_48, li_53, li_57, li_59, li_60, li_61, li_62, li_63, li_80, li_81, li_91, li_93, li_97, li_100, li_122, li_200, li_255, li_256, li_257, li_258, li_259, li_260, li_300, li_314, li_400, li_580, li_999, li_5040, li_9999, li_65536, li_99999, li_7654321] <;> omega, wl_numberOf (by omega) hm (Pm8 hm g1) g2 (wl_min e1 rfl (by omega) (by omega) ?_)⟩, fun y => ?_⟩
        · refine ih (j + 1) (min x (onum (Q j) m)) _ _ (by (first | rfl | (simp (disch := omega) only [jn_add, jn_sub, jn_mul, jn_neg, li_0, li_1, li_2, li_3, li_4, li_5, li_6, li_7, li_8, li_9, li_10, li_11, li_12, li_13, li_14, li_15, li_16, li_17, li_18, li_20, li_24, li_29, li_30, li_31, li_32, li_37, li_39, li_40, li_42, li_43, li_45, li_46, li_47, li_48, li_53, li_57, li_59, li_60, li_61, li_62, li_63, li_80, li_81, li_91, li_93, li_97, li_100, li_122, li_200, li_255, li_256, li_257, li_258, li_259, li_260, li_300, li_314, li_400, li_580, li_999, li_5040, li_9999, li_65536, li_99999, li_7654321] <;> first | rfl | exact congrArg jn (by omega)) | exact congrArg jn (by omega))) rfl (by omega) ?_ (fun i hi hd => ?_) (by omega) (by omega)
          · by_cases w : x ≤ onum (Q j) m
            · rw [Nat.min_eq_left w]
              rcases ha with ha | ⟨i, i1, i2, i3⟩
              · exact Or.inl ha
              · exact Or.inr ⟨i, by omega, i2, i3⟩
            · rw [Nat.min_eq_right (by omega)]
              exact Or.inr ⟨j, by omega, by omega, rfl⟩
          · by_cases e : i = j
            · rw [e]; exact Nat.min_le_right _ _
            · exact Nat.le_trans (Nat.min_le_left _ _) (hb i (by omega) hd)
        · refine ih (j + 1) x _ _ (by (first | rfl | (simp (disch := omega) only [jn_add, jn_sub, jn_mul, jn_neg, li_0, li_1, li_2, li_3, li_4, li_5, li_6, li_7, li_8, li_9, li_10, li_11, li_12, li_13, li_14, li_15, li_16, li_17, li_18, li_20, li_24, li_29, li_30, li_31, li_32, li_37, li_39, li_40, li_42, li_43, li_45, li_46, li_47, li_48, li_53, li_57, li_59, li_60, li_61, li_62, li_63, li_80, li_81, li_91, li_93, li_97, li_100, li_122, li_200, li_255, li_256, li_257, li_258, li_259, li_260, li_300, li_314, li_400, li_580, li_999, li_5040, li_9999, li_65536, li_99999, li_7654321] <;> first | rfl | exact congrArg jn (by omega)) | exact congrArg jn (by omega))) e1 (by omega) ?_ (fun i hi hd => ?_) hx (by omega)
          · rcases ha with ha | ⟨i, i1, i2, i3⟩
            · exact Or.inl ha
            · exact Or.inr ⟨i, by omega, i2, i3⟩
          · by_cases e : i = j
            · rw [e] at hd; omega
            · exact hb i (by omega) hd
  exact key N 0 7654321 _ _ rfl rfl (by omega) (Or.inl rfl) (fun i hi => by omega) (by omega) (by omega)
theorem gn_lt {r : Nat → Nat} {p : Nat} (hm : m ≤ 7) : gn m r p < 128 := bs_lt7 hm
theorem wl_aheadIn {r : Nat → Nat} {c : Nat} {K : Int32 → Prop} {x y : Int32} (hN : 10 ≤ N) (hm : m ≤ 7) (hr : Pm m r) (hc : c < m) (hx : x = jn (p8 m r : Int)) (hy : y = jn c) (h : K (jn (gn m r (iv r c m) : Int))) : wp_X5_aheadIn N (jn m) K x y := by
  unfold wp_X5_aheadIn
  subst hx hy
  have hp := iv_lt hr hc
  have key : ∀ (k j : Nat) (v3 v4 : Int32), v4 = jn j → j ≤ iv r c m → v3 = jn (gn m r j : Int) → m < k + j → wp_X5_aheadIn_5 N (jn m) K k (jn (p8 m r : Int)) (jn c) v3 v4 := by
    intro k
    induction k with
    | zero => intro j v3 v4 _ h1 _ h2; omega
    | succ k ih =>
      intro j v3 v4 e4 hj e3 hk
      unfold wp_X5_aheadIn_5
      subst e4
      refine ⟨fun z => ?_, fun z x1 e1 => ?_⟩
      · simp (disch := omega) only [jn_le, jn_lt, jn_eq, jn_in, jn_add, jn_sub, jn_mul, jn_neg, li_0, li_1, li_2, li_3, li_4, li_5, li_6, li_7, li_8, li_9, li_10, li_11, li_12, li_13, li_14, li_15, li_16, li_17, li_18, li_20, li_24, li_29, li_30, li_31, li_32, li_37, li_39, li_40, li_42, li_43, li_45, li_46, li_47, li_48, li_53, li_57, li_59, li_60, li_61, li_62, li_63, li_80, li_81, li_91, li_93, li_97, li_100, li_122, li_200, li_255, li_256, li_257, li_258, li_259, li_260, li_300, li_314, li_400, li_580, li_999, li_5040, li_9999, li_65536, li_99999, li_7654321] at z; omega
      · rw [p8_sh hm (Pm8 hm hr) (by omega)] at e1
        subst e1
        have hrj := hr.1 j (by omega)
        rw [jn_eq (by omega) (by omega)]
        refine ⟨fun w => ?_, fun w x2 e2 => ?_⟩
        · have : iv r c m = j := iv_is hr (by omega) (by omega)
          rw [this] at h
          rw [e3]; exact h
        · have hne : j ≠ iv r c m := by
            intro q
            have := iv_at hr hc
            rw [← q] at this; omega
          refine ih (j + 1) _ _ (by (first | rfl | (simp (disch := omega) only [jn_add, jn_sub, jn_mul, jn_neg, li_0, li_1, li_2, li_3, li_4, li_5, li_6, li_7, li_8, li_9, li_10, li_11, li_12, li_13, li_14, li_15, li_16, li_17, li_18, li_20, li_24, li_29, li_30, li_31, li_32, li_37, li_39, li_40, li_42, li_43, li_45, li_46, li_47, li_48, li_53, li_57, li_59, li_60, li_61, li_62, li_63, li_80, li_81, li_91, li_93, li_97, li_100, li_122, li_200, li_255, li_256, li_257, li_258, li_259, li_260, li_300, li_314, li_400, li_580, li_999, li_5040, li_9999, li_65536, li_99999, li_7654321] <;> first | rfl | exact congrArg jn (by omega)) | exact congrArg jn (by omega))) (by omega) ?_ (by omega)
          rw [e2, e3, jn_bit (by omega), jn_or, gn_succ hr (by omega)]
  refine key N 0 _ _ rfl (by omega) ?_ (by omega)
  have : gn m r 0 = 0 := by
    unfold gn
    refine (bs_is (fun c => ?_)).symm
    rw [Nat.zero_testBit, decide_eq_false (show ¬ iv r c m < 0 by omega), Bool.and_false]
  rw [this]; rfl
theorem wl_always {c : Nat} {K : Int32 → Prop} {x : Int32} (hN : 6000 ≤ N) (hm : m ≤ 7) (hB : cB m F Q pa la dp fo wh rw' fr de) (hc : c < m) (hx : x = jn c) (h : ∀ y : Nat, (∀ d, y.testBit d = true ↔ (d < m ∧ ∀ j, j < F → iv (Q j) d m < iv (Q j) c m)) → K (jn (y : Int))) : wp_X5_alwaysAhead N (jn m) fo rw' K x := by
  obtain ⟨c1, c2, c3, c4⟩ := hB
  unfold wp_X5_alwaysAhead
  subst c1 hx
  intro x1 e1
  have key : ∀ (k j y : Nat) (v2 v3 : Int32), v3 = jn j → j ≤ F → v2 = jn (y : Int) → (∀ d, y.testBit d = true ↔ (d < m ∧ ∀ i, i < j → iv (Q i) d m < iv (Q i) c m)) → F < k + j → wp_X5_alwaysAhead_11 N (jn m) (jn F) rw' K k (jn c) v2 v3 := by
    intro k
    induction k with
    | zero => intro j y v2 v3 _ h1 _ _ h2; omega
    | succ k ih =>
      intro j y v2 v3 e3 hj e2 hy hk
      unfold wp_X5_alwaysAhead_11
      subst e3
      refine ⟨fun z => ?_, fun z => ?_⟩
      · simp (disch := omega) only [jn_le, jn_lt, jn_eq, jn_in, jn_add, jn_sub, jn_mul, jn_neg, li_0, li_1, li_2, li_3, li_4, li_5, li_6, li_7, li_8, li_9, li_10, li_11, li_12, li_13, li_14, li_15, li_16, li_17, li_18, li_20, li_24, li_29, li_30, li_31, li_32, li_37, li_39, li_40, li_42, li_43, li_45, li_46, li_47, li_48, li_53, li_57, li_59, li_60, li_61, li_62, li_63, li_80, li_81, li_91, li_93, li_97, li_100, li_122, li_200, li_255, li_256, li_257, li_258, li_259, li_260, li_300, li_314, li_400, li_580, li_999, li_5040, li_9999, li_65536, li_99999, li_7654321] at z
        have e : j = F := by omega
        subst e
        rw [e2]; exact h y hy
      · simp (disch := omega) only [jn_le, jn_lt, jn_eq, jn_in, jn_add, jn_sub, jn_mul, jn_neg, li_0, li_1, li_2, li_3, li_4, li_5, li_6, li_7, li_8, li_9, li_10, li_11, li_12, li_13, li_14, li_15, li_16, li_17, li_18, li_20, li_24, li_29, li_30, li_31, li_32, li_37, li_39, li_40, li_42, li_43, li_45, li_46, li_47, li_48, li_53, li_57, li_59, li_60, li_61, li_62, li_63, li_80, li_81, li_91, li_93, li_97, li_100, li_122, li_200, li_255, li_256, li_257, li_258, li_259, li_260, li_300, li_314, li_400, li_580, li_999, li_5040, li_9999, li_65536, li_99999, li_7654321] at z
        obtain ⟨g1, g2, -⟩ := c3 j (by omega)
        refine ⟨by simp (disch := omega) only [jn_le, jn_lt, jn_eq, jn_in, jn_add, jn_sub, jn_mul, jn_neg, li_0, li_1, li_2, li_3, li_4, li_5, li_6, li_7, li_8, li_9, li_10, li_11, li_12, li_13, li_14, li_15, li_16, li_17, li_18, li_20, li_24, li_29, li_30, li_31, li_32, li_37, li_39, li_40, li_42, li_43, li_45, li_46, li_47, li_48, li_53, li_57, li_59, li_60, li_61, li_62, li_63, li_80, li_81, li_91, li_93, li_97, li_100, li_122, li_200, li_255, li_256, li_257, li_258, li_259, li_260, li_300, li_314, li_400, li_580, li_999, li_5040, li_9999, li_65536, li_99999, li_7654321] <;> omega, ?_⟩
        rw [jn_cln (by omega)]
        refine wl_aheadIn (by omega) hm g1 hc g2 rfl (fun x3 e3 => ?_)
        refine ih (j + 1) (y &&& gn m (Q j) (iv (Q j) c m)) _ _ (by (first | rfl | (simp (disch := omega) only [jn_add, jn_sub, jn_mul, jn_neg, li_0, li_1, li_2, li_3, li_4, li_5, li_6, li_7, li_8, li_9, li_10, li_11, li_12, li_13, li_14, li_15, li_16, li_17, li_18, li_20, li_24, li_29, li_30, li_31, li_32, li_37, li_39, li_40, li_42, li_43, li_45, li_46, li_47, li_48, li_53, li_57, li_59, li_60, li_61, li_62, li_63, li_80, li_81, li_91, li_93, li_97, li_100, li_122, li_200, li_255, li_256, li_257, li_258, li_259, li_260, li_300, li_314, li_400, li_580, li_999, li_5040, li_9999, li_65536, li_99999, li_7654321] <;> first | rfl | exact congrArg jn (by omega)) | exact congrArg jn (by omega))) (by omega) (by rw [e3, e2, jn_and]) (fun d => ?_) (by omega)
        rw [Nat.testBit_and, Bool.and_eq_true, hy d]
        unfold gn
        rw [bs_bit, Bool.and_eq_true, decide_eq_true_eq, decide_eq_true_eq]
        constructor
        · rintro ⟨⟨a, b⟩, -, e⟩
          refine ⟨a, fun i hi => ?_⟩
          by_cases q : i = j
          · rw [q]; exact e
          · exact b i (by omega)
        · rintro ⟨a, b⟩
          exact ⟨⟨a, fun i hi => b i (by omega)⟩, a, b j (by omega)⟩
  refine key N 0 (2 ^ m - 1) _ _ rfl (by omega) ?_ (fun d => ?_) (by omega)
  · rw [e1, jn_bit (by omega), li_1, jn_sub]
    refine congrArg jn ?_
    have : 0 < 2 ^ m := Nat.two_pow_pos m
    omega
  · rw [Nat.testBit_two_pow_sub_one, decide_eq_true_eq]
    exact ⟨fun a => ⟨a, fun i hi => by omega⟩, fun a => a.1⟩
theorem wl_leapOf {t i : Nat} {K : Int32 → Prop} {x y : Int32} {E : Nat → Nat → Nat → Prop} {S : Nat} {ro : Nat → Nat} (hN : 6000 ≤ N) (hB : cB m F Q pa la dp fo wh rw' fr de) (hR : RB E S F ro pa la dp) (ht : t < F) (hi : i < dp t) (hx : x = jn t) (hy : y = jn i) (h : K (jn (la (up pa t (dp t - (i + 1))) : Int))) : wp_X5_leapOf N fr de K x y := by
  obtain ⟨c1, c2, c3, c4⟩ := hB
  unfold wp_X5_leapOf
  subst hx hy
  have hd := (c3 t ht).2.2.2
  have key : ∀ (n k : Nat) (v3 v4 : Int32), v3 = jn (up pa t k : Int) → v4 = jn ((dp t - k : Nat) : Int) → k + i < dp t → dp t < n + k → wp_X5_leapOf_10 N fr de K n (jn i) v3 v4 := by
    intro n
    induction n with
    | zero => intro k v3 v4 _ _ h1 h2; omega
    | succ n ih =>
      intro k v3 v4 e3 e4 hk hn
      obtain ⟨u1, u2, u3⟩ := up_dp hR ht k (by omega)
      obtain ⟨-, -, g3, -, -, g6, g7, -⟩ := c3 _ u1
      unfold wp_X5_leapOf_10
      subst e3 e4
      rw [show jn (i : Int) + (1 : Int32) = jn ((i + 1 : Nat) : Int) from by (first | rfl | (simp (disch := omega) only [jn_add, jn_sub, jn_mul, jn_neg, li_0, li_1, li_2, li_3, li_4, li_5, li_6, li_7, li_8, li_9, li_10, li_11, li_12, li_13, li_14, li_15, li_16, li_17, li_18, li_20, li_24, li_29, li_30, li_31, li_32, li_37, li_39, li_40, li_42, li_43, li_45, li_46, li_47, li_48, li_53, li_57, li_59, li_60, li_61, li_62, li_63, li_80, li_81, li_91, li_93, li_97, li_100, li_122, li_200, li_255, li_256, li_257, li_258, li_259, li_260, li_300, li_314, li_400, li_580, li_999, li_5040, li_9999, li_65536, li_99999, li_7654321] <;> first | rfl | exact congrArg jn (by omega)) | exact congrArg jn (by omega)), jn_le (by omega) (by omega), jn_cln (by omega), g3]
      refine ⟨fun z => ⟨by simp (disch := omega) only [jn_le, jn_lt, jn_eq, jn_in, jn_add, jn_sub, jn_mul, jn_neg, li_0, li_1, li_2, li_3, li_4, li_5, li_6, li_7, li_8, li_9, li_10, li_11, li_12, li_13, li_14, li_15, li_16, li_17, li_18, li_20, li_24, li_29, li_30, li_31, li_32, li_37, li_39, li_40, li_42, li_43, li_45, li_46, li_47, li_48, li_53, li_57, li_59, li_60, li_61, li_62, li_63, li_80, li_81, li_91, li_93, li_97, li_100, li_122, li_200, li_255, li_256, li_257, li_258, li_259, li_260, li_300, li_314, li_400, li_580, li_999, li_5040, li_9999, li_65536, li_99999, li_7654321] <;> omega, ?_⟩, fun z => ⟨by simp (disch := omega) only [jn_le, jn_lt, jn_eq, jn_in, jn_add, jn_sub, jn_mul, jn_neg, li_0, li_1, li_2, li_3, li_4, li_5, li_6, li_7, li_8, li_9, li_10, li_11, li_12, li_13, li_14, li_15, li_16, li_17, li_18, li_20, li_24, li_29, li_30, li_31, li_32, li_37, li_39, li_40, li_42, li_43, li_45, li_46, li_47, li_48, li_53, li_57, li_59, li_60, li_61, li_62, li_63, li_80, li_81, li_91, li_93, li_97, li_100, li_122, li_200, li_255, li_256, li_257, li_258, li_259, li_260, li_300, li_314, li_400, li_580, li_999, li_5040, li_9999, li_65536, li_99999, li_7654321] <;> omega, fun x2 e2 => ?_⟩⟩
      · rw [show (63 : Int32) = jn ((63 : Nat) : Int) from rfl, jn_and, show (63 : Nat) = 2 ^ 6 - 1 from rfl, Nat.and_two_pow_sub_one_eq_mod, show (64 * pa (up pa t k) + la (up pa t k)) % 2 ^ 6 = la (up pa t k) by omega]
        rw [show dp t - (i + 1) = k by omega] at h
        exact h
      · rw [show (6 : Int32) = jn ((6 : Nat) : Int) from rfl, jn_shr (by omega) (by omega), show (64 * pa (up pa t k) + la (up pa t k)) / 2 ^ 6 = pa (up pa t k) by omega] at e2
        refine ih (k + 1) _ _ e2 ?_ (by omega) (by omega)
        rw [show (-1 : Int32) = jn (-1) from rfl, jn_add]; exact congrArg jn (by omega)
  refine ⟨by simp (disch := omega) only [jn_le, jn_lt, jn_eq, jn_in, jn_add, jn_sub, jn_mul, jn_neg, li_0, li_1, li_2, li_3, li_4, li_5, li_6, li_7, li_8, li_9, li_10, li_11, li_12, li_13, li_14, li_15, li_16, li_17, li_18, li_20, li_24, li_29, li_30, li_31, li_32, li_37, li_39, li_40, li_42, li_43, li_45, li_46, li_47, li_48, li_53, li_57, li_59, li_60, li_61, li_62, li_63, li_80, li_81, li_91, li_93, li_97, li_100, li_122, li_200, li_255, li_256, li_257, li_258, li_259, li_260, li_300, li_314, li_400, li_580, li_999, li_5040, li_9999, li_65536, li_99999, li_7654321] <;> omega, fun x1 e1 => ?_⟩
  rw [jn_cln (by omega), hd.1] at e1
  exact key N 0 _ _ rfl e1 (by omega) (by omega)
theorem wl_find {r : Nat → Nat} {K : Int32 → (Nat → Int32) → (Nat → Int32) → Prop} {x : Int32} {eo ee : Nat → Int32} (hN : 6000 ≤ N) (hm : m ≤ 7) (hB : cB m F Q pa la dp fo wh rw' fr de) (hr : Pm m r) (hx : x = jn (onum r m : Int)) (h1 : ∀ j, j < F → rk m (Q j) = rk m r → ∀ eo ee, K (jn (j : Int)) eo ee) (h2 : (∀ j, j < F → rk m (Q j) ≠ rk m r) → ∀ eo ee, K (-1) eo ee) : wp_X5_find N (jn m) wh K x eo ee := by
  obtain ⟨c1, c2, c3, c4⟩ := hB
  have hk := rk_lt (r := r) hm
  unfold wp_X5_find
  intro x1 e1
  have hb : ∀ p, p ≤ m → onum r p ≤ 7654321 := by
    intro p hp
    have h0 := onum_dt (m := m) (r := r) hp
    have h1 := onum_le hm hr
    rw [onum_all] at h1
    have h2 : 1 ≤ 10 ^ (m - p) := Nat.pow_pos (by omega)
    have h3 := Nat.mul_le_mul_left (onum r p) h2
    omega
  have key : ∀ (n p : Nat) (v2 v3 : Int32) (eo : Nat → Int32), v3 = jn ((p : Int) - 1) → p ≤ m → v2 = jn (onum r p : Int) → (∀ q, p ≤ q → q < m → eo q = jn (r q : Int)) → p < n → wp_X5_find_9 N (jn m) wh K n v2 v3 eo ee := by
    intro n
    induction n with
    | zero => intro p v2 v3 eo _ _ _ _ h2; omega
    | succ n ih =>
      intro p v2 v3 eo e3 hp e2 ho hn
      unfold wp_X5_find_9 wp_X5_find_63 wp_X5_find_64
      subst e3
      refine ⟨fun z => ?_, fun z => ?_⟩
      · simp (disch := omega) only [jn_le, jn_lt, jn_eq, jn_in, jn_add, jn_sub, jn_mul, jn_neg, li_0, li_1, li_2, li_3, li_4, li_5, li_6, li_7, li_8, li_9, li_10, li_11, li_12, li_13, li_14, li_15, li_16, li_17, li_18, li_20, li_24, li_29, li_30, li_31, li_32, li_37, li_39, li_40, li_42, li_43, li_45, li_46, li_47, li_48, li_53, li_57, li_59, li_60, li_61, li_62, li_63, li_80, li_81, li_91, li_93, li_97, li_100, li_122, li_200, li_255, li_256, li_257, li_258, li_259, li_260, li_300, li_314, li_400, li_580, li_999, li_5040, li_9999, li_65536, li_99999, li_7654321] at z
        have e : p = 0 := by omega
        subst e
        refine wl_rank (by omega) hm hr (fun q hq => ho q (by omega) hq) (fun le' _ => ⟨fun y => ?_, fun y => ⟨fun w => ?_, fun w => ⟨by simp (disch := omega) only [jn_le, jn_lt, jn_eq, jn_in, jn_add, jn_sub, jn_mul, jn_neg, li_0, li_1, li_2, li_3, li_4, li_5, li_6, li_7, li_8, li_9, li_10, li_11, li_12, li_13, li_14, li_15, li_16, li_17, li_18, li_20, li_24, li_29, li_30, li_31, li_32, li_37, li_39, li_40, li_42, li_43, li_45, li_46, li_47, li_48, li_53, li_57, li_59, li_60, li_61, li_62, li_63, li_80, li_81, li_91, li_93, li_97, li_100, li_122, li_200, li_255, li_256, li_257, li_258, li_259, li_260, li_300, li_314, li_400, li_580, li_999, li_5040, li_9999, li_65536, li_99999, li_7654321] <;> omega, ?_⟩⟩⟩)
        · simp (disch := omega) only [jn_le, jn_lt, jn_eq, jn_in, jn_add, jn_sub, jn_mul, jn_neg, li_0, li_1, li_2, li_3, li_4, li_5, li_6, li_7, li_8, li_9, li_10, li_11, li_12, li_13, li_14, li_15, li_16, li_17, li_18, li_20, li_24, li_29, li_30, li_31, li_32, li_37, li_39, li_40, li_42, li_43, li_45, li_46, li_47, li_48, li_53, li_57, li_59, li_60, li_61, li_62, li_63, li_80, li_81, li_91, li_93, li_97, li_100, li_122, li_200, li_255, li_256, li_257, li_258, li_259, li_260, li_300, li_314, li_400, li_580, li_999, li_5040, li_9999, li_65536, li_99999, li_7654321] at y; omega
        · simp (disch := omega) only [jn_le, jn_lt, jn_eq, jn_in, jn_add, jn_sub, jn_mul, jn_neg, li_0, li_1, li_2, li_3, li_4, li_5, li_6, li_7, li_8, li_9, li_10, li_11, li_12, li_13, li_14, li_15, li_16, li_17, li_18, li_20, li_24, li_29, li_30, li_31, li_32, li_37, li_39, li_40, li_42, li_43, li_45, li_46, li_47, li_48, li_53, li_57, li_59, li_60, li_61, li_62, li_63, li_80, li_81, li_91, li_93, li_97, li_100, li_122, li_200, li_255, li_256, li_257, li_258, li_259, li_260, li_300, li_314, li_400, li_580, li_999, li_5040, li_9999, li_65536, li_99999, li_7654321] at w; omega
        · rw [jn_cln (by omega)]
          by_cases hj : ∃ j, j < F ∧ rk m (Q j) = rk m r
          · obtain ⟨j, j1, j2⟩ := hj
            have := (c3 j j1).2.2.2.2.1
            rw [j2] at this
            rw [this, show jn ((j + 1 : Nat) : Int) - (1 : Int32) = jn (j : Int) from by (first | rfl | (simp (disch := omega) only [jn_add, jn_sub, jn_mul, jn_neg, li_0, li_1, li_2, li_3, li_4, li_5, li_6, li_7, li_8, li_9, li_10, li_11, li_12, li_13, li_14, li_15, li_16, li_17, li_18, li_20, li_24, li_29, li_30, li_31, li_32, li_37, li_39, li_40, li_42, li_43, li_45, li_46, li_47, li_48, li_53, li_57, li_59, li_60, li_61, li_62, li_63, li_80, li_81, li_91, li_93, li_97, li_100, li_122, li_200, li_255, li_256, li_257, li_258, li_259, li_260, li_300, li_314, li_400, li_580, li_999, li_5040, li_9999, li_65536, li_99999, li_7654321] <;> first | rfl | exact congrArg jn (by omega)) | exact congrArg jn (by omega))]
            exact h1 j j1 j2 _ _
          · have hj' : ∀ j, j < F → rk m (Q j) ≠ rk m r := fun j a b => hj ⟨j, a, b⟩
            rw [c4 _ hk hj']
            exact h2 hj' _ _
      · simp (disch := omega) only [jn_le, jn_lt, jn_eq, jn_in, jn_add, jn_sub, jn_mul, jn_neg, li_0, li_1, li_2, li_3, li_4, li_5, li_6, li_7, li_8, li_9, li_10, li_11, li_12, li_13, li_14, li_15, li_16, li_17, li_18, li_20, li_24, li_29, li_30, li_31, li_32, li_37, li_39, li_40, li_42, li_43, li_45, li_46, li_47, li_48, li_53, li_57, li_59, li_60, li_61, li_62, li_63, li_80, li_81, li_91, li_93, li_97, li_100, li_122, li_200, li_255, li_256, li_257, li_258, li_259, li_260, li_300, li_314, li_400, li_580, li_999, li_5040, li_9999, li_65536, li_99999, li_7654321] at z
        obtain ⟨p, rfl⟩ : ∃ p', p = p' + 1 := ⟨p - 1, by omega⟩
        have hb1 := hb (p + 1) hp
        have hrp := hr.1 p (by omega)
        have hd : onum r (p + 1) / 10 = onum r p := by rw [onum]; omega
        rw [show (((p + 1 : Nat) : Int) - 1) = (p : Int) by omega] at z ⊢
        refine ⟨by decide, by simp (disch := omega) only [jn_le, jn_lt, jn_eq, jn_in, jn_add, jn_sub, jn_mul, jn_neg, li_0, li_1, li_2, li_3, li_4, li_5, li_6, li_7, li_8, li_9, li_10, li_11, li_12, li_13, li_14, li_15, li_16, li_17, li_18, li_20, li_24, li_29, li_30, li_31, li_32, li_37, li_39, li_40, li_42, li_43, li_45, li_46, li_47, li_48, li_53, li_57, li_59, li_60, li_61, li_62, li_63, li_80, li_81, li_91, li_93, li_97, li_100, li_122, li_200, li_255, li_256, li_257, li_258, li_259, li_260, li_300, li_314, li_400, li_580, li_999, li_5040, li_9999, li_65536, li_99999, li_7654321] <;> omega, fun a4 e4 => ⟨by decide, fun x5 e5 => ?_⟩⟩
        rw [jn_cln (by omega), e2, jn_div10 (by omega), hd] at e4
        rw [e2, jn_div10 (by omega), hd] at e5
        refine ih p _ _ a4 ?_ (by omega) e5 (fun q hq hqm => ?_) (by omega)
        · rw [show (-1 : Int32) = jn (-1) from rfl, jn_add]; exact congrArg jn (by omega)
        · by_cases e : q = p
          · rw [e, e4, upd_at, li_10, jn_mul, jn_sub, li_1, jn_sub, onum]
            exact congrArg jn (by omega)
          · rw [e4, upd_ne e]; exact ho q (by omega) hqm
  refine key N m _ _ eo ?_ (Nat.le_refl m) hx (fun q hq hqm => by omega) (by omega)
  rw [e1, li_1, jn_sub]
end CAS2
