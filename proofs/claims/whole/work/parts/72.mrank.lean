/-! the reference: an order's number, and back -/
theorem jn_divN {a k : Nat} (ha : a < 2147483648) (hk : 0 < k) (hk2 : k < 2147483648) : jn (a : Int) / jn (k : Int) = jn ((a / k : Nat) : Int) := by
  have h1 : a / k ≤ a := Nat.div_le_self _ _
  have e : ((a : Int).tdiv (k : Int)) = ((a / k : Nat) : Int) := Int.ofNat_tdiv a k
  rw [← Int32.toInt_inj, Int32.toInt_div, jn_toInt (by omega), jn_toInt (by omega), e]
  generalize a / k = q at h1 ⊢
  rw [jn_toInt (by omega), Int.bmod_def]
  split <;> omega
section MRK
variable {N m : Nat} {r : Nat → Nat} {sd : Nat → Int32}
theorem wm_isOf {x y : Nat} {Q : Int32 → Prop} {u v : Int32} (hx : x < 128) (hy : y < 8) (hu : u = jn x) (hv : v = jn y) (h1 : x.testBit y = true → Q 1) (h0 : x.testBit y = false → Q 0) : wp_X12_isOf N Q u v := by
  unfold wp_X12_isOf wp_X12_isOf_14
  subst hu hv
  rw [jn_tst1 hx hy]
  refine ⟨fun z => ⟨Or.inr rfl, h1 z⟩, fun z => ⟨Or.inl rfl, h0 ?_⟩⟩
  cases q : x.testBit y with
  | true => exact absurd q z
  | false => rfl
theorem wm_rowsOf {k : Nat} {Q : Int32 → Prop} {x : Int32} (hN : 10 ≤ N) (hk : k ≤ 7) (hx : x = jn k) (h : Q (jn (fc k : Int))) : wp_X12_rowsOf N Q x := by
  unfold wp_X12_rowsOf
  subst hx
  have key : ∀ (n j : Nat) (v1 v2 : Int32), v2 = jn ((j + 2 : Nat) : Int) → v1 = jn (fc (j + 1) : Int) → j = 0 ∨ j < k → k < n + j → wp_X12_rowsOf_4 N Q n (jn k) v1 v2 := by
    intro n
    induction n with
    | zero => intro j v1 v2 _ _ h1 h2; omega
    | succ n ih =>
      intro j v1 v2 e2 e1 hj hn
      unfold wp_X12_rowsOf_4
      subst e2
      refine ⟨fun z => ?_, fun z x1 q1 => ?_⟩
      · simp (disch := omega) only [jn_le, jn_lt, jn_eq, jn_in, jn_add, jn_sub, jn_mul, jn_neg, li_0, li_1, li_2, li_3, li_4, li_5, li_6, li_7, li_8, li_9, li_10, li_11, li_12, li_13, li_14, li_15, li_16, li_17, li_18, li_20, li_24, li_29, li_30, li_31, li_32, li_37, li_39, li_40, li_42, li_43, li_45, li_46, li_47, li_48, li_53, li_57, li_59, li_60, li_61, li_62, li_63, li_80, li_81, li_91, li_93, li_97, li_100, li_122, li_200, li_255, li_256, li_257, li_258, li_259, li_260, li_300, li_314, li_400, li_580, li_999, li_5040, li_9999, li_65536, li_99999, li_7654321] at z
        have e : fc (j + 1) = fc k := by
          by_cases e0 : k = 0
          · have : j = 0 := by omega
            subst this e0; rfl
          · have : j + 1 = k := by omega
            rw [this]
        rw [e1, e]; exact h
      · simp (disch := omega) only [jn_le, jn_lt, jn_eq, jn_in, jn_add, jn_sub, jn_mul, jn_neg, li_0, li_1, li_2, li_3, li_4, li_5, li_6, li_7, li_8, li_9, li_10, li_11, li_12, li_13, li_14, li_15, li_16, li_17, li_18, li_20, li_24, li_29, li_30, li_31, li_32, li_37, li_39, li_40, li_42, li_43, li_45, li_46, li_47, li_48, li_53, li_57, li_59, li_60, li_61, li_62, li_63, li_80, li_81, li_91, li_93, li_97, li_100, li_122, li_200, li_255, li_256, li_257, li_258, li_259, li_260, li_300, li_314, li_400, li_580, li_999, li_5040, li_9999, li_65536, li_99999, li_7654321] at z
        refine ih (j + 1) _ _ (by (first | rfl | (simp (disch := omega) only [jn_add, jn_sub, jn_mul, jn_neg, li_0, li_1, li_2, li_3, li_4, li_5, li_6, li_7, li_8, li_9, li_10, li_11, li_12, li_13, li_14, li_15, li_16, li_17, li_18, li_20, li_24, li_29, li_30, li_31, li_32, li_37, li_39, li_40, li_42, li_43, li_45, li_46, li_47, li_48, li_53, li_57, li_59, li_60, li_61, li_62, li_63, li_80, li_81, li_91, li_93, li_97, li_100, li_122, li_200, li_255, li_256, li_257, li_258, li_259, li_260, li_300, li_314, li_400, li_580, li_999, li_5040, li_9999, li_65536, li_99999, li_7654321] <;> first | rfl | exact congrArg jn (by omega)) | exact congrArg jn (by omega))) ?_ (by omega) (by omega)
        rw [q1, e1, jn_mul]
        refine congrArg jn ?_
        show (fc (j + 1) : Int) * ((j + 2 : Nat) : Int) = (((j + 1 + 1) * fc (j + 1) : Nat) : Int)
        rw [Int.natCast_mul, Int.mul_comm]
  exact key N 0 _ _ rfl rfl (Or.inl rfl) (by omega)
theorem wm_rankOf2 {rw' : Nat → Int32} {Q : Int32 → Prop} (hN : 10 ≤ N) (hm : m ≤ 7) (hsd : sd 2 = jn m) (hr : ∀ i, i < m → r i < 8) (hR : ar m rw' r) (h : Q (jn (rk m r : Int))) : wp_X12_rankOf_r12 N sd rw' Q := by
  unfold wp_X12_rankOf_r12
  have key : ∀ (n i : Nat) (v2 v3 : Int32), v3 = jn i → i ≤ m → v2 = jn ((rk m r : Int) - (rt m r (m - i) : Int)) → m < n + i → wp_X12_rankOf_r12_4 N sd rw' Q n v2 v3 := by
    intro n
    induction n with
    | zero => intro i v2 v3 _ h1 _ h2; omega
    | succ n ih =>
      intro i v2 v3 e3 hi e2 hn
      unfold wp_X12_rankOf_r12_4
      subst e3
      rw [show (2 : Int32).toNatClampNeg = 2 from rfl, hsd]
      refine ⟨by unfold vp_in; decide, fun z => ?_, fun z x1 e1 => ?_⟩
      · simp (disch := omega) only [jn_le, jn_lt, jn_eq, jn_in, jn_add, jn_sub, jn_mul, jn_neg, li_0, li_1, li_2, li_3, li_4, li_5, li_6, li_7, li_8, li_9, li_10, li_11, li_12, li_13, li_14, li_15, li_16, li_17, li_18, li_20, li_24, li_29, li_30, li_31, li_32, li_37, li_39, li_40, li_42, li_43, li_45, li_46, li_47, li_48, li_53, li_57, li_59, li_60, li_61, li_62, li_63, li_80, li_81, li_91, li_93, li_97, li_100, li_122, li_200, li_255, li_256, li_257, li_258, li_259, li_260, li_300, li_314, li_400, li_580, li_999, li_5040, li_9999, li_65536, li_99999, li_7654321] at z
        have e : i = m := by omega
        subst e
        rw [e2, Nat.sub_self, show (rk i r : Int) - (rt i r 0 : Int) = (rk i r : Int) by show (rk i r : Int) - ((0 : Nat) : Int) = _; omega]
        exact h
      · simp (disch := omega) only [jn_le, jn_lt, jn_eq, jn_in, jn_add, jn_sub, jn_mul, jn_neg, li_0, li_1, li_2, li_3, li_4, li_5, li_6, li_7, li_8, li_9, li_10, li_11, li_12, li_13, li_14, li_15, li_16, li_17, li_18, li_20, li_24, li_29, li_30, li_31, li_32, li_37, li_39, li_40, li_42, li_43, li_45, li_46, li_47, li_48, li_53, li_57, li_59, li_60, li_61, li_62, li_63, li_80, li_81, li_91, li_93, li_97, li_100, li_122, li_200, li_255, li_256, li_257, li_258, li_259, li_260, li_300, li_314, li_400, li_580, li_999, li_5040, li_9999, li_65536, li_99999, li_7654321] at z
        have him : i < m := by omega
        have hri := hr i him
        have key2 : ∀ (k j : Nat) (v4 v5 : Int32), v5 = jn j → i < j → j ≤ m → v4 = jn (cnt (fun q => decide (i < q) && decide (r q < r i)) j : Int) → m < k + j → wp_X12_rankOf_r12_22 N sd rw' (wp_X12_rankOf_r12_4 N sd rw' Q n) Q k v2 (jn i) v4 v5 := by
          intro k
          induction k with
          | zero => intro j v4 v5 _ _ h1 _ h2; omega
          | succ k ih2 =>
            intro j v4 v5 e5 hij hj e4 hk
            unfold wp_X12_rankOf_r12_22 wp_X12_rankOf_r12_50
            subst e5
            rw [show (2 : Int32).toNatClampNeg = 2 from rfl, hsd]
            refine ⟨by unfold vp_in; decide, fun y => ⟨by unfold vp_in; decide, ?_⟩, fun y => ?_⟩
            · simp (disch := omega) only [jn_le, jn_lt, jn_eq, jn_in, jn_add, jn_sub, jn_mul, jn_neg, li_0, li_1, li_2, li_3, li_4, li_5, li_6, li_7, li_8, li_9, li_10, li_11, li_12, li_13, li_14, li_15, li_16, li_17, li_18, li_20, li_24, li_29, li_30, li_31, li_32, li_37, li_39, li_40, li_42, li_43, li_45, li_46, li_47, li_48, li_53, li_57, li_59, li_60, li_61, li_62, li_63, li_80, li_81, li_91, li_93, li_97, li_100, li_122, li_200, li_255, li_256, li_257, li_258, li_259, li_260, li_300, li_314, li_400, li_580, li_999, li_5040, li_9999, li_65536, li_99999, li_7654321] at y
              have e : j = m := by omega
              subst e
              refine wm_rowsOf hN (k := j - 1 - i) (by omega) (by (first | rfl | (simp (disch := omega) only [jn_add, jn_sub, jn_mul, jn_neg, li_0, li_1, li_2, li_3, li_4, li_5, li_6, li_7, li_8, li_9, li_10, li_11, li_12, li_13, li_14, li_15, li_16, li_17, li_18, li_20, li_24, li_29, li_30, li_31, li_32, li_37, li_39, li_40, li_42, li_43, li_45, li_46, li_47, li_48, li_53, li_57, li_59, li_60, li_61, li_62, li_63, li_80, li_81, li_91, li_93, li_97, li_100, li_122, li_200, li_255, li_256, li_257, li_258, li_259, li_260, li_300, li_314, li_400, li_580, li_999, li_5040, li_9999, li_65536, li_99999, li_7654321] <;> first | rfl | exact congrArg jn (by omega)) | exact congrArg jn (by omega))) (fun x3 e3 => ?_)
              refine ih (i + 1) _ _ (by (first | rfl | (simp (disch := omega) only [jn_add, jn_sub, jn_mul, jn_neg, li_0, li_1, li_2, li_3, li_4, li_5, li_6, li_7, li_8, li_9, li_10, li_11, li_12, li_13, li_14, li_15, li_16, li_17, li_18, li_20, li_24, li_29, li_30, li_31, li_32, li_37, li_39, li_40, li_42, li_43, li_45, li_46, li_47, li_48, li_53, li_57, li_59, li_60, li_61, li_62, li_63, li_80, li_81, li_91, li_93, li_97, li_100, li_122, li_200, li_255, li_256, li_257, li_258, li_259, li_260, li_300, li_314, li_400, li_580, li_999, li_5040, li_9999, li_65536, li_99999, li_7654321] <;> first | rfl | exact congrArg jn (by omega)) | exact congrArg jn (by omega))) (by omega) ?_ (by omega)
              have hrt : rt j r (j - i) = ls j r i * fc (j - 1 - i) + rt j r (j - (i + 1)) := by
                rw [show j - i = (j - (i + 1)) + 1 by omega, rt, show j - (j - (i + 1) + 1) = i by omega, show j - (i + 1) = j - 1 - i by omega]
              rw [e3, e4, e2, jn_mul, jn_add]
              refine congrArg jn ?_
              rw [hrt, Int.natCast_add, Int.natCast_mul]
              show _ + (ls j r i : Int) * _ = _
              omega
            · simp (disch := omega) only [jn_le, jn_lt, jn_eq, jn_in, jn_add, jn_sub, jn_mul, jn_neg, li_0, li_1, li_2, li_3, li_4, li_5, li_6, li_7, li_8, li_9, li_10, li_11, li_12, li_13, li_14, li_15, li_16, li_17, li_18, li_20, li_24, li_29, li_30, li_31, li_32, li_37, li_39, li_40, li_42, li_43, li_45, li_46, li_47, li_48, li_53, li_57, li_59, li_60, li_61, li_62, li_63, li_80, li_81, li_91, li_93, li_97, li_100, li_122, li_200, li_255, li_256, li_257, li_258, li_259, li_260, li_300, li_314, li_400, li_580, li_999, li_5040, li_9999, li_65536, li_99999, li_7654321] at y
              have hrj := hr j (by omega)
              refine ⟨by simp (disch := omega) only [jn_le, jn_lt, jn_eq, jn_in, jn_add, jn_sub, jn_mul, jn_neg, li_0, li_1, li_2, li_3, li_4, li_5, li_6, li_7, li_8, li_9, li_10, li_11, li_12, li_13, li_14, li_15, li_16, li_17, li_18, li_20, li_24, li_29, li_30, li_31, li_32, li_37, li_39, li_40, li_42, li_43, li_45, li_46, li_47, li_48, li_53, li_57, li_59, li_60, li_61, li_62, li_63, li_80, li_81, li_91, li_93, li_97, li_100, li_122, li_200, li_255, li_256, li_257, li_258, li_259, li_260, li_300, li_314, li_400, li_580, li_999, li_5040, li_9999, li_65536, li_99999, li_7654321] <;> omega, by simp (disch := omega) only [jn_le, jn_lt, jn_eq, jn_in, jn_add, jn_sub, jn_mul, jn_neg, li_0, li_1, li_2, li_3, li_4, li_5, li_6, li_7, li_8, li_9, li_10, li_11, li_12, li_13, li_14, li_15, li_16, li_17, li_18, li_20, li_24, li_29, li_30, li_31, li_32, li_37, li_39, li_40, li_42, li_43, li_45, li_46, li_47, li_48, li_53, li_57, li_59, li_60, li_61, li_62, li_63, li_80, li_81, li_91, li_93, li_97, li_100, li_122, li_200, li_255, li_256, li_257, li_258, li_259, li_260, li_300, li_314, li_400, li_580, li_999, li_5040, li_9999, li_65536, li_99999, li_7654321] <;> omega, ?_⟩
              rw [jn_cln (by omega), jn_cln (by omega), hR i him, hR j (by omega), jn_le (by omega) (by omega)]
              refine ⟨fun w x4 q4 => ?_, fun w x4 q4 => ?_⟩
              · refine ih2 (j + 1) _ _ (by (first | rfl | (simp (disch := omega) only [jn_add, jn_sub, jn_mul, jn_neg, li_0, li_1, li_2, li_3, li_4, li_5, li_6, li_7, li_8, li_9, li_10, li_11, li_12, li_13, li_14, li_15, li_16, li_17, li_18, li_20, li_24, li_29, li_30, li_31, li_32, li_37, li_39, li_40, li_42, li_43, li_45, li_46, li_47, li_48, li_53, li_57, li_59, li_60, li_61, li_62, li_63, li_80, li_81, li_91, li_93, li_97, li_100, li_122, li_200, li_255, li_256, li_257, li_258, li_259, li_260, li_300, li_314, li_400, li_580, li_999, li_5040, li_9999, li_65536, li_99999, li_7654321] <;> first | rfl | exact congrArg jn (by omega)) | exact congrArg jn (by omega))) (by omega) (by omega) ?_ (by omega)
                rw [q4, e4, cnt_succ, if_neg (by simp only [Bool.and_eq_true, decide_eq_true_eq]; omega), li_0, jn_add]; rfl
              · refine ih2 (j + 1) _ _ (by (first | rfl | (simp (disch := omega) only [jn_add, jn_sub, jn_mul, jn_neg, li_0, li_1, li_2, li_3, li_4, li_5, li_6, li_7, li_8, li_9, li_10, li_11, li_12, li_13, li_14, li_15, li_16, li_17, li_18, li_20, li_24, li_29, li_30, li_31, li_32, li_37, li_39, li_40, li_42, li_43, li_45, li_46, li_47, li_48, li_53, li_57, li_59, li_60, li_61, li_62, li_63, li_80, li_81, li_91, li_93, li_97, li_100, li_122, li_200, li_255, li_256, li_257, li_258, li_259, li_260, li_300, li_314, li_400, li_580, li_999, li_5040, li_9999, li_65536, li_99999, li_7654321] <;> first | rfl | exact congrArg jn (by omega)) | exact congrArg jn (by omega))) (by omega) (by omega) ?_ (by omega)
                rw [q4, e4, cnt_succ, if_pos (by simp only [Bool.and_eq_true, decide_eq_true_eq]; omega), li_1, jn_add]; rfl
        rw [show jn (i : Int) + (1 : Int32) = jn ((i + 1 : Nat) : Int) from by (first | rfl | (simp (disch := omega) only [jn_add, jn_sub, jn_mul, jn_neg, li_0, li_1, li_2, li_3, li_4, li_5, li_6, li_7, li_8, li_9, li_10, li_11, li_12, li_13, li_14, li_15, li_16, li_17, li_18, li_20, li_24, li_29, li_30, li_31, li_32, li_37, li_39, li_40, li_42, li_43, li_45, li_46, li_47, li_48, li_53, li_57, li_59, li_60, li_61, li_62, li_63, li_80, li_81, li_91, li_93, li_97, li_100, li_122, li_200, li_255, li_256, li_257, li_258, li_259, li_260, li_300, li_314, li_400, li_580, li_999, li_5040, li_9999, li_65536, li_99999, li_7654321] <;> first | rfl | exact congrArg jn (by omega)) | exact congrArg jn (by omega))] at e1
        refine key2 N (i + 1) _ _ e1 (by omega) (by omega) ?_ (by omega)
        have : cnt (fun q => decide (i < q) && decide (r q < r i)) (i + 1) = 0 := by
          have := cnt_lo (i := i) (f := fun q => decide (r q < r i)) (m := i + 1)
          omega
        rw [this]; rfl
  refine key N 0 _ _ rfl (by omega) ?_ (by omega)
  rw [li_0]
  refine congrArg jn ?_
  show (0 : Int) = (rk m r : Int) - (rk m r : Int); omega
theorem wm_rankOf3 {rw' : Nat → Int32} {Q : Int32 → Prop} (hN : 10 ≤ N) (hm : m ≤ 7) (hsd : sd 2 = jn m) (hr : ∀ i, i < m → r i < 8) (hR : ar m rw' r) (h : Q (jn (rk m r : Int))) : wp_X12_rankOf_r13 N sd rw' Q := by
  unfold wp_X12_rankOf_r13
  have key : ∀ (n i : Nat) (v2 v3 : Int32), v3 = jn i → i ≤ m → v2 = jn ((rk m r : Int) - (rt m r (m - i) : Int)) → m < n + i → wp_X12_rankOf_r13_4 N sd rw' Q n v2 v3 := by
    intro n
    induction n with
    | zero => intro i v2 v3 _ h1 _ h2; omega
    | succ n ih =>
      intro i v2 v3 e3 hi e2 hn
      unfold wp_X12_rankOf_r13_4
      subst e3
      rw [show (2 : Int32).toNatClampNeg = 2 from rfl, hsd]
      refine ⟨by unfold vp_in; decide, fun z => ?_, fun z x1 e1 => ?_⟩
      · simp (disch := omega) only [jn_le, jn_lt, jn_eq, jn_in, jn_add, jn_sub, jn_mul, jn_neg, li_0, li_1, li_2, li_3, li_4, li_5, li_6, li_7, li_8, li_9, li_10, li_11, li_12, li_13, li_14, li_15, li_16, li_17, li_18, li_20, li_24, li_29, li_30, li_31, li_32, li_37, li_39, li_40, li_42, li_43, li_45, li_46, li_47, li_48, li_53, li_57, li_59, li_60, li_61, li_62, li_63, li_80, li_81, li_91, li_93, li_97, li_100, li_122, li_200, li_255, li_256, li_257, li_258, li_259, li_260, li_300, li_314, li_400, li_580, li_999, li_5040, li_9999, li_65536, li_99999, li_7654321] at z
        have e : i = m := by omega
        subst e
        rw [e2, Nat.sub_self, show (rk i r : Int) - (rt i r 0 : Int) = (rk i r : Int) by show (rk i r : Int) - ((0 : Nat) : Int) = _; omega]
        exact h
      · simp (disch := omega) only [jn_le, jn_lt, jn_eq, jn_in, jn_add, jn_sub, jn_mul, jn_neg, li_0, li_1, li_2, li_3, li_4, li_5, li_6, li_7, li_8, li_9, li_10, li_11, li_12, li_13, li_14, li_15, li_16, li_17, li_18, li_20, li_24, li_29, li_30, li_31, li_32, li_37, li_39, li_40, li_42, li_43, li_45, li_46, li_47, li_48, li_53, li_57, li_59, li_60, li_61, li_62, li_63, li_80, li_81, li_91, li_93, li_97, li_100, li_122, li_200, li_255, li_256, li_257, li_258, li_259, li_260, li_300, li_314, li_400, li_580, li_999, li_5040, li_9999, li_65536, li_99999, li_7654321] at z
        have him : i < m := by omega
        have hri := hr i him
        have key2 : ∀ (k j : Nat) (v4 v5 : Int32), v5 = jn j → i < j → j ≤ m → v4 = jn (cnt (fun q => decide (i < q) && decide (r q < r i)) j : Int) → m < k + j → wp_X12_rankOf_r13_22 N sd rw' (wp_X12_rankOf_r13_4 N sd rw' Q n) Q k v2 (jn i) v4 v5 := by
          intro k
          induction k with
          | zero => intro j v4 v5 _ _ h1 _ h2; omega
          | succ k ih2 =>
            intro j v4 v5 e5 hij hj e4 hk
            unfold wp_X12_rankOf_r13_22 wp_X12_rankOf_r13_50
            subst e5
            rw [show (2 : Int32).toNatClampNeg = 2 from rfl, hsd]
            refine ⟨by unfold vp_in; decide, fun y => ⟨by unfold vp_in; decide, ?_⟩, fun y => ?_⟩
            · simp (disch := omega) only [jn_le, jn_lt, jn_eq, jn_in, jn_add, jn_sub, jn_mul, jn_neg, li_0, li_1, li_2, li_3, li_4, li_5, li_6, li_7, li_8, li_9, li_10, li_11, li_12, li_13, li_14, li_15, li_16, li_17, li_18, li_20, li_24, li_29, li_30, li_31, li_32, li_37, li_39, li_40, li_42, li_43, li_45, li_46, li_47, li_48, li_53, li_57, li_59, li_60, li_61, li_62, li_63, li_80, li_81, li_91, li_93, li_97, li_100, li_122, li_200, li_255, li_256, li_257, li_258, li_259, li_260, li_300, li_314, li_400, li_580, li_999, li_5040, li_9999, li_65536, li_99999, li_7654321] at y
              have e : j = m := by omega
              subst e
              refine wm_rowsOf hN (k := j - 1 - i) (by omega) (by (first | rfl | (simp (disch := omega) only [jn_add, jn_sub, jn_mul, jn_neg, li_0, li_1, li_2, li_3, li_4, li_5, li_6, li_7, li_8, li_9, li_10, li_11, li_12, li_13, li_14, li_15, li_16, li_17, li_18, li_20, li_24, li_29, li_30, li_31, li_32, li_37, li_39, li_40, li_42, li_43, li_45, li_46, li_47, li_48, li_53, li_57, li_59, li_60, li_61, li_62, li_63, li_80, li_81, li_91, li_93, li_97, li_100, li_122, li_200, li_255, li_256, li_257, li_258, li_259, li_260, li_300, li_314, li_400, li_580, li_999, li_5040, li_9999, li_65536, li_99999, li_7654321] <;> first | rfl | exact congrArg jn (by omega)) | exact congrArg jn (by omega))) (fun x3 e3 => ?_)
              refine ih (i + 1) _ _ (by (first | rfl | (simp (disch := omega) only [jn_add, jn_sub, jn_mul, jn_neg, li_0, li_1, li_2, li_3, li_4, li_5, li_6, li_7, li_8, li_9, li_10, li_11, li_12, li_13, li_14, li_15, li_16, li_17, li_18, li_20, li_24, li_29, li_30, li_31, li_32, li_37, li_39, li_40, li_42, li_43, li_45, li_46, li_47, li_48, li_53, li_57, li_59, li_60, li_61, li_62, li_63, li_80, li_81, li_91, li_93, li_97, li_100, li_122, li_200, li_255, li_256, li_257, li_258, li_259, li_260, li_300, li_314, li_400, li_580, li_999, li_5040, li_9999, li_65536, li_99999, li_7654321] <;> first | rfl | exact congrArg jn (by omega)) | exact congrArg jn (by omega))) (by omega) ?_ (by omega)
              have hrt : rt j r (j - i) = ls j r i * fc (j - 1 - i) + rt j r (j - (i + 1)) := by
                rw [show j - i = (j - (i + 1)) + 1 by omega, rt, show j - (j - (i + 1) + 1) = i by omega, show j - (i + 1) = j - 1 - i by omega]
              rw [e3, e4, e2, jn_mul, jn_add]
              refine congrArg jn ?_
              rw [hrt, Int.natCast_add, Int.natCast_mul]
              show _ + (ls j r i : Int) * _ = _
              omega
            · simp (disch := omega) only [jn_le, jn_lt, jn_eq, jn_in, jn_add, jn_sub, jn_mul, jn_neg, li_0, li_1, li_2, li_3, li_4, li_5, li_6, li_7, li_8, li_9, li_10, li_11, li_12, li_13, li_14, li_15, li_16, li_17, li_18, li_20, li_24, li_29, li_30, li_31, li_32, li_37, li_39, li_40, li_42, li_43, li_45, li_46, li_47, li_48, li_53, li_57, li_59, li_60, li_61, li_62, li_63, li_80, li_81, li_91, li_93, li_97, li_100, li_122, li_200, li_255, li_256, li_257, li_258, li_259, li_260, li_300, li_314, li_400, li_580, li_999, li_5040, li_9999, li_65536, li_99999, li_7654321] at y
              have hrj := hr j (by omega)
              refine ⟨by simp (disch := omega) only [jn_le, jn_lt, jn_eq, jn_in, jn_add, jn_sub, jn_mul, jn_neg, li_0, li_1, li_2, li_3, li_4, li_5, li_6, li_7, li_8, li_9, li_10, li_11, li_12, li_13, li_14, li_15, li_16, li_17, li_18, li_20, li_24, li_29, li_30, li_31, li_32, li_37, li_39, li_40, li_42, li_43, li_45, li_46, li_47, li_48, li_53, li_57, li_59, li_60, li_61, li_62, li_63, li_80, li_81, li_91, li_93, li_97, li_100, li_122, li_200, li_255, li_256, li_257, li_258, li_259, li_260, li_300, li_314, li_400, li_580, li_999, li_5040, li_9999, li_65536, li_99999, li_7654321] <;> omega, by simp (disch := omega) only [jn_le, jn_lt, jn_eq, jn_in, jn_add, jn_sub, jn_mul, jn_neg, li_0, li_1, li_2, li_3, li_4, li_5, li_6, li_7, li_8, li_9, li_10, li_11, li_12, li_13, li_14, li_15, li_16, li_17, li_18, li_20, li_24, li_29, li_30, li_31, li_32, li_37, li_39, li_40, li_42, li_43, li_45, li_46, li_47, li_48, li_53, li_57, li_59, li_60, li_61, li_62, li_63, li_80, li_81, li_91, li_93, li_97, li_100, li_122, li_200, li_255, li_256, li_257, li_258, li_259, li_260, li_300, li_314, li_400, li_580, li_999, li_5040, li_9999, li_65536, li_99999, li_7654321] <;> omega, ?_⟩
              rw [jn_cln (by omega), jn_cln (by omega), hR i him, hR j (by omega), jn_le (by omega) (by omega)]
              refine ⟨fun w x4 q4 => ?_, fun w x4 q4 => ?_⟩
              · refine ih2 (j + 1) _ _ (by (first | rfl | (simp (disch := omega) only [jn_add, jn_sub, jn_mul, jn_neg, li_0, li_1, li_2, li_3, li_4, li_5, li_6, li_7, li_8, li_9, li_10, li_11, li_12, li_13, li_14, li_15, li_16, li_17, li_18, li_20, li_24, li_29, li_30, li_31, li_32, li_37, li_39, li_40, li_42, li_43, li_45, li_46, li_47, li_48, li_53, li_57, li_59, li_60, li_61, li_62, li_63, li_80, li_81, li_91, li_93, li_97, li_100, li_122, li_200, li_255, li_256, li_257, li_258, li_259, li_260, li_300, li_314, li_400, li_580, li_999, li_5040, li_9999, li_65536, li_99999, li_7654321] <;> first | rfl | exact congrArg jn (by omega)) | exact congrArg jn (by omega))) (by omega) (by omega) ?_ (by omega)
                rw [q4, e4, cnt_succ, if_neg (by simp only [Bool.and_eq_true, decide_eq_true_eq]; omega), li_0, jn_add]; rfl
              · refine ih2 (j + 1) _ _ (by (first | rfl | (simp (disch := omega) only [jn_add, jn_sub, jn_mul, jn_neg, li_0, li_1, li_2, li_3, li_4, li_5, li_6, li_7, li_8, li_9, li_10, li_11, li_12, li_13, li_14, li_15, li_16, li_17, li_18, li_20, li_24, li_29, li_30, li_31, li_32, li_37, li_39, li_40, li_42, li_43, li_45, li_46, li_47, li_48, li_53, li_57, li_59, li_60, li_61, li_62, li_63, li_80, li_81, li_91, li_93, li_97, li_100, li_122, li_200, li_255, li_256, li_257, li_258, li_259, li_260, li_300, li_314, li_400, li_580, li_999, li_5040, li_9999, li_65536, li_99999, li_7654321] <;> first | rfl | exact congrArg jn (by omega)) | exact congrArg jn (by omega))) (by omega) (by omega) ?_ (by omega)
                rw [q4, e4, cnt_succ, if_pos (by simp only [Bool.and_eq_true, decide_eq_true_eq]; omega), li_1, jn_add]; rfl
        rw [show jn (i : Int) + (1 : Int32) = jn ((i + 1 : Nat) : Int) from by (first | rfl | (simp (disch := omega) only [jn_add, jn_sub, jn_mul, jn_neg, li_0, li_1, li_2, li_3, li_4, li_5, li_6, li_7, li_8, li_9, li_10, li_11, li_12, li_13, li_14, li_15, li_16, li_17, li_18, li_20, li_24, li_29, li_30, li_31, li_32, li_37, li_39, li_40, li_42, li_43, li_45, li_46, li_47, li_48, li_53, li_57, li_59, li_60, li_61, li_62, li_63, li_80, li_81, li_91, li_93, li_97, li_100, li_122, li_200, li_255, li_256, li_257, li_258, li_259, li_260, li_300, li_314, li_400, li_580, li_999, li_5040, li_9999, li_65536, li_99999, li_7654321] <;> first | rfl | exact congrArg jn (by omega)) | exact congrArg jn (by omega))] at e1
        refine key2 N (i + 1) _ _ e1 (by omega) (by omega) ?_ (by omega)
        have : cnt (fun q => decide (i < q) && decide (r q < r i)) (i + 1) = 0 := by
          have := cnt_lo (i := i) (f := fun q => decide (r q < r i)) (m := i + 1)
          omega
        rw [this]; rfl
  refine key N 0 _ _ rfl (by omega) ?_ (by omega)
  rw [li_0]
  refine congrArg jn ?_
  show (0 : Int) = (rk m r : Int) - (rk m r : Int); omega
theorem wm_rowOf {rw' : Nat → Int32} {Q : (Nat → Int32) → Prop} {x : Int32} (hN : 20 ≤ N) (hm : m ≤ 7) (hsd : sd 2 = jn m) (hr : Pm m r) (hx : x = jn (rk m r : Int)) (h : ∀ rw2, ar m rw2 r → Q rw2) : wp_X12_rowOf N sd Q x rw' := by
  unfold wp_X12_rowOf
  have hkl := rk_lt (r := r) hm
  have key : ∀ (n i : Nat) (v2 v3 v4 : Int32) (rw' : Nat → Int32), v4 = jn i → i ≤ m → v3 = jn (rt m r (m - i) : Int) → v2 = jn (gn m r i : Int) → ar i rw' r → m < n + i → wp_X12_rowOf_7 N sd Q n v2 v3 v4 rw' := by
    intro n
    induction n with
    | zero => intro i v2 v3 v4 rw' _ h1 _ _ _ h2; omega
    | succ n ih =>
      intro i v2 v3 v4 rw' e4 hi e3 e2 hR hn
      unfold wp_X12_rowOf_7
      subst e4
      rw [show (2 : Int32).toNatClampNeg = 2 from rfl, hsd]
      refine ⟨by unfold vp_in; decide, fun z => ?_, fun z => ⟨by unfold vp_in; decide, ?_⟩⟩
      · simp (disch := omega) only [jn_le, jn_lt, jn_eq, jn_in, jn_add, jn_sub, jn_mul, jn_neg, li_0, li_1, li_2, li_3, li_4, li_5, li_6, li_7, li_8, li_9, li_10, li_11, li_12, li_13, li_14, li_15, li_16, li_17, li_18, li_20, li_24, li_29, li_30, li_31, li_32, li_37, li_39, li_40, li_42, li_43, li_45, li_46, li_47, li_48, li_53, li_57, li_59, li_60, li_61, li_62, li_63, li_80, li_81, li_91, li_93, li_97, li_100, li_122, li_200, li_255, li_256, li_257, li_258, li_259, li_260, li_300, li_314, li_400, li_580, li_999, li_5040, li_9999, li_65536, li_99999, li_7654321] at z
        have e : i = m := by omega
        subst e; exact h rw' hR
      · simp (disch := omega) only [jn_le, jn_lt, jn_eq, jn_in, jn_add, jn_sub, jn_mul, jn_neg, li_0, li_1, li_2, li_3, li_4, li_5, li_6, li_7, li_8, li_9, li_10, li_11, li_12, li_13, li_14, li_15, li_16, li_17, li_18, li_20, li_24, li_29, li_30, li_31, li_32, li_37, li_39, li_40, li_42, li_43, li_45, li_46, li_47, li_48, li_53, li_57, li_59, li_60, li_61, li_62, li_63, li_80, li_81, li_91, li_93, li_97, li_100, li_122, li_200, li_255, li_256, li_257, li_258, li_259, li_260, li_300, li_314, li_400, li_580, li_999, li_5040, li_9999, li_65536, li_99999, li_7654321] at z
        have him : i < m := by omega
        have hri := hr.1 i him
        have hfp := fc_pos (n := m - 1 - i)
        have hfr := fc_r (k := m - 1 - i) (by omega)
        have hrtl := rt_lt (m := m) (r := r) (d := m - i) (by omega)
        have hfr2 := fc_r (k := m - i) (by omega)
        obtain ⟨d1, d2⟩ := rt_div (m := m) (r := r) him
        have hls := ls_le (m := m) (r := r) (i := i)
        have hlc := ls_c hr him
        refine wm_rowsOf (by omega) (k := m - 1 - i) (by omega) (by (first | rfl | (simp (disch := omega) only [jn_add, jn_sub, jn_mul, jn_neg, li_0, li_1, li_2, li_3, li_4, li_5, li_6, li_7, li_8, li_9, li_10, li_11, li_12, li_13, li_14, li_15, li_16, li_17, li_18, li_20, li_24, li_29, li_30, li_31, li_32, li_37, li_39, li_40, li_42, li_43, li_45, li_46, li_47, li_48, li_53, li_57, li_59, li_60, li_61, li_62, li_63, li_80, li_81, li_91, li_93, li_97, li_100, li_122, li_200, li_255, li_256, li_257, li_258, li_259, li_260, li_300, li_314, li_400, li_580, li_999, li_5040, li_9999, li_65536, li_99999, li_7654321] <;> first | rfl | exact congrArg jn (by omega)) | exact congrArg jn (by omega))) ⟨fun q => ?_, fun x2 q2 => ?_⟩
        · rw [li_0, jn_eq (by omega) (by omega)] at q; omega
        rw [e3, jn_divN (by omega) hfp (by omega), d1] at q2
        have hg := gn_lt (r := r) (p := i) hm
        have key2 : ∀ (k c : Nat) (v6 v7 : Int32), v7 = jn c → c ≤ r i → v6 = jn ((ls m r i - cnt (fun c => decide (i ≤ iv r c m)) c : Nat) : Int) → 8 < k + c → wp_X12_rowOf_43 N sd (wp_X12_rowOf_7 N sd Q n) Q k v2 v3 (jn i) (jn (fc (m - 1 - i) : Int)) v6 v7 rw' := by
          intro k
          induction k with
          | zero => intro c v6 v7 _ h1 _ h2; omega
          | succ k ih2 =>
            intro c v6 v7 e7 hc e6 hk
            have hbit : (gn m r i).testBit c = decide (iv r c m < i) := by
              unfold gn; rw [bs_bit, decide_eq_true (show c < m by omega), Bool.true_and]
            have hmono := cnt_mono (f := fun c => decide (i ≤ iv r c m)) (a := c) (d := r i - c)
            rw [show c + (r i - c) = r i by omega, ← hlc] at hmono
            unfold wp_X12_rowOf_43
            subst e7
            have step : c ≠ r i → wp_X12_rowOf_57 N sd (wp_X12_rowOf_43 N sd (wp_X12_rowOf_7 N sd Q n) Q k) Q v2 v3 (jn i) (jn (fc (m - 1 - i) : Int)) v6 (jn c) rw' := by
              intro hne
              unfold wp_X12_rowOf_57 wp_X12_rowOf_73
              have hmono2 := cnt_mono (f := fun c => decide (i ≤ iv r c m)) (a := c + 1) (d := r i - (c + 1))
              rw [show c + 1 + (r i - (c + 1)) = r i by omega, ← hlc, cnt_succ] at hmono2
              refine wm_isOf hg (by omega) e2 rfl (fun b => ⟨fun y => absurd y (by decide), fun _ x8 q8 => ?_⟩) (fun b => ⟨fun _ x8 q8 => ?_, fun y => absurd rfl y⟩)
              · rw [hbit, decide_eq_true_eq] at b
                refine ih2 (c + 1) _ _ (by (first | rfl | (simp (disch := omega) only [jn_add, jn_sub, jn_mul, jn_neg, li_0, li_1, li_2, li_3, li_4, li_5, li_6, li_7, li_8, li_9, li_10, li_11, li_12, li_13, li_14, li_15, li_16, li_17, li_18, li_20, li_24, li_29, li_30, li_31, li_32, li_37, li_39, li_40, li_42, li_43, li_45, li_46, li_47, li_48, li_53, li_57, li_59, li_60, li_61, li_62, li_63, li_80, li_81, li_91, li_93, li_97, li_100, li_122, li_200, li_255, li_256, li_257, li_258, li_259, li_260, li_300, li_314, li_400, li_580, li_999, li_5040, li_9999, li_65536, li_99999, li_7654321] <;> first | rfl | exact congrArg jn (by omega)) | exact congrArg jn (by omega))) (by omega) ?_ (by omega)
                rw [q8, e6, cnt_succ, if_neg (by simp only [decide_eq_true_eq]; omega), li_0, jn_sub]
                exact congrArg jn (by omega)
              · rw [hbit, decide_eq_false_iff_not] at b
                rw [if_pos (by simp only [decide_eq_true_eq]; omega)] at hmono2
                refine ih2 (c + 1) _ _ (by (first | rfl | (simp (disch := omega) only [jn_add, jn_sub, jn_mul, jn_neg, li_0, li_1, li_2, li_3, li_4, li_5, li_6, li_7, li_8, li_9, li_10, li_11, li_12, li_13, li_14, li_15, li_16, li_17, li_18, li_20, li_24, li_29, li_30, li_31, li_32, li_37, li_39, li_40, li_42, li_43, li_45, li_46, li_47, li_48, li_53, li_57, li_59, li_60, li_61, li_62, li_63, li_80, li_81, li_91, li_93, li_97, li_100, li_122, li_200, li_255, li_256, li_257, li_258, li_259, li_260, li_300, li_314, li_400, li_580, li_999, li_5040, li_9999, li_65536, li_99999, li_7654321] <;> first | rfl | exact congrArg jn (by omega)) | exact congrArg jn (by omega))) (by omega) ?_ (by omega)
                rw [q8, e6, cnt_succ, if_pos (by simp only [decide_eq_true_eq]; omega), li_1, jn_sub]
                exact congrArg jn (by omega)
            refine wm_isOf hg (by omega) e2 rfl (fun b => ⟨fun y => absurd y (by decide), fun _ => step ?_⟩) (fun b => ⟨fun _ => ?_, fun y => absurd rfl y⟩)
            · intro q
              rw [hbit, decide_eq_true_eq, q, iv_eq hr him] at b
              omega
            · rw [hbit, decide_eq_false_iff_not] at b
              rw [e6, li_0, jn_le (by omega) (by omega)]
              rw [← e6]
              refine ⟨fun y => ?_, fun y => step ?_⟩
              · have hce : c = r i := by
                  by_cases q : c = r i
                  · exact q
                  · have hmono2 := cnt_mono (f := fun c => decide (i ≤ iv r c m)) (a := c + 1) (d := r i - (c + 1))
                    rw [show c + 1 + (r i - (c + 1)) = r i by omega, ← hlc, cnt_succ, if_pos (by simp only [decide_eq_true_eq]; omega)] at hmono2
                    omega
                subst hce
                refine ⟨by simp (disch := omega) only [jn_le, jn_lt, jn_eq, jn_in, jn_add, jn_sub, jn_mul, jn_neg, li_0, li_1, li_2, li_3, li_4, li_5, li_6, li_7, li_8, li_9, li_10, li_11, li_12, li_13, li_14, li_15, li_16, li_17, li_18, li_20, li_24, li_29, li_30, li_31, li_32, li_37, li_39, li_40, li_42, li_43, li_45, li_46, li_47, li_48, li_53, li_57, li_59, li_60, li_61, li_62, li_63, li_80, li_81, li_91, li_93, li_97, li_100, li_122, li_200, li_255, li_256, li_257, li_258, li_259, li_260, li_300, li_314, li_400, li_580, li_999, li_5040, li_9999, li_65536, li_99999, li_7654321] <;> omega, fun a4 q4 x5 q5 => ⟨fun q => ?_, fun x6 q6 => ?_⟩⟩
                · rw [jn_eq (by omega) (by omega)] at q; omega
                rw [jn_cln (by omega)] at q4
                refine ih (i + 1) _ _ _ a4 (by (first | rfl | (simp (disch := omega) only [jn_add, jn_sub, jn_mul, jn_neg, li_0, li_1, li_2, li_3, li_4, li_5, li_6, li_7, li_8, li_9, li_10, li_11, li_12, li_13, li_14, li_15, li_16, li_17, li_18, li_20, li_24, li_29, li_30, li_31, li_32, li_37, li_39, li_40, li_42, li_43, li_45, li_46, li_47, li_48, li_53, li_57, li_59, li_60, li_61, li_62, li_63, li_80, li_81, li_91, li_93, li_97, li_100, li_122, li_200, li_255, li_256, li_257, li_258, li_259, li_260, li_300, li_314, li_400, li_580, li_999, li_5040, li_9999, li_65536, li_99999, li_7654321] <;> first | rfl | exact congrArg jn (by omega)) | exact congrArg jn (by omega))) (by omega) ?_ ?_ (fun j hj => ?_) (by omega)
                · rw [q6, e3, jn_divN (by omega) hfp (by omega), jn_mul, jn_sub, ← d2]
                  refine congrArg jn ?_
                  have := Nat.div_add_mod (rt m r (m - i)) (fc (m - 1 - i))
                  rw [Nat.mul_comm] at this
                  rw [← Int.natCast_mul]
                  generalize rt m r (m - i) / fc (m - 1 - i) * fc (m - 1 - i) = A at this ⊢
                  omega
                · rw [q5, e2, jn_bit (by omega), jn_or, gn_succ hr him]
                · by_cases e : j = i
                  · rw [e, q4, upd_at]
                  · rw [q4, upd_ne e]; exact hR j (by omega)
              · intro q
                rw [q, ← hlc] at y
                omega
        exact key2 N 0 _ _ rfl (by omega) q2 (by omega)
  refine key N 0 _ _ _ rw' rfl (by omega) hx ?_ (fun q hq => by omega) (by omega)
  have : gn m r 0 = 0 := by
    unfold gn
    refine (bs_is (fun c => ?_)).symm
    rw [Nat.zero_testBit, decide_eq_false (show ¬ iv r c m < 0 by omega), Bool.and_false]
  rw [this]; rfl
end MRK
