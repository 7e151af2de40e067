/-! rests: the reference -/
section MRS
variable {N n a b : Nat} {l : lS} {g : gS} {r : rS} {sg cl cs sd kp hb : Nat → Int32} {fc tp : Int32} {st wd : Nat → Int64} {G : Nat → Int32}
theorem wm_isRest {t : Nat} {Q : Int32 → Prop} {x y : Int32} (hN : 10 ≤ N) (hG : ∀ i, i < 32 → hb i = G i) (ht : t < 16) (hx : x = jn ((t / 4 : Nat) : Int)) (hy : y = jn ((t % 4 : Nat) : Int)) (h1 : rP G t = true → Q 1) (h0 : rP G t = false → Q 0) : wp_X12_isRest N hb Q x y := by
  subst hx hy
  unfold wp_X12_isRest
  have key : ∀ (k i : Nat) (v4 : Int32), v4 = jn (i : Int) → i ≤ 4 → (∀ q, q < i → ¬ G (2 * t) < G (2 * (4 * q + t % 4)) ∧ G (2 * (4 * (t / 4) + q) + 1) ≤ G (2 * t + 1)) → 4 < k + i → wp_X12_isRest_2 N hb Q k (jn ((t / 4 : Nat) : Int)) (jn ((t % 4 : Nat) : Int)) v4 := by
    intro k
    induction k with
    | zero => intro i v4 _ h1 _ h2; omega
    | succ k ih =>
      intro i v4 e hi ha hk
      subst e
      unfold wp_X12_isRest_2 wp_X12_isRest_65
      have e1 : (2 : Int32) * ((4 : Int32) * jn (i : Int) + jn ((t % 4 : Nat) : Int)) = jn ((2 * (4 * i + t % 4) : Nat) : Int) := by (first | rfl | (simp (disch := omega) only [jn_add, jn_sub, jn_mul, jn_neg, li_0, li_1, li_2, li_3, li_4, li_5, li_6, li_7, li_8, li_9, li_10, li_11, li_12, li_13, li_14, li_15, li_16, li_17, li_18, li_20, li_24, li_29, li_30, li_31, li_32, li_37, li_39, li_40, li_42, li_43, li_45, li_46, li_47, li_48, li_53, li_57, li_59, li_60, li_61, li_62, li_63, li_80, li_81, li_91, li_93, li_97, li_100, li_122, li_200, li_255, li_256, li_257, li_258, li_259, li_260, li_300, li_314, li_400, li_580, li_999, li_5040, li_9999, li_65536, li_99999, li_7654321] <;> first | rfl | exact congrArg jn (by omega)) | exact congrArg jn (by omega))
      have e2 : (2 : Int32) * ((4 : Int32) * jn ((t / 4 : Nat) : Int) + jn ((t % 4 : Nat) : Int)) = jn ((2 * t : Nat) : Int) := by
        rw [li_2, li_4, jn_mul, jn_add, jn_mul]; exact congrArg jn (by omega)
      have e3 : (2 : Int32) * ((4 : Int32) * jn ((t / 4 : Nat) : Int) + jn (i : Int)) + 1 = jn ((2 * (4 * (t / 4) + i) + 1 : Nat) : Int) := by (first | rfl | (simp (disch := omega) only [jn_add, jn_sub, jn_mul, jn_neg, li_0, li_1, li_2, li_3, li_4, li_5, li_6, li_7, li_8, li_9, li_10, li_11, li_12, li_13, li_14, li_15, li_16, li_17, li_18, li_20, li_24, li_29, li_30, li_31, li_32, li_37, li_39, li_40, li_42, li_43, li_45, li_46, li_47, li_48, li_53, li_57, li_59, li_60, li_61, li_62, li_63, li_80, li_81, li_91, li_93, li_97, li_100, li_122, li_200, li_255, li_256, li_257, li_258, li_259, li_260, li_300, li_314, li_400, li_580, li_999, li_5040, li_9999, li_65536, li_99999, li_7654321] <;> first | rfl | exact congrArg jn (by omega)) | exact congrArg jn (by omega))
      have e4 : jn ((2 * t : Nat) : Int) + 1 = jn ((2 * t + 1 : Nat) : Int) := by (first | rfl | (simp (disch := omega) only [jn_add, jn_sub, jn_mul, jn_neg, li_0, li_1, li_2, li_3, li_4, li_5, li_6, li_7, li_8, li_9, li_10, li_11, li_12, li_13, li_14, li_15, li_16, li_17, li_18, li_20, li_24, li_29, li_30, li_31, li_32, li_37, li_39, li_40, li_42, li_43, li_45, li_46, li_47, li_48, li_53, li_57, li_59, li_60, li_61, li_62, li_63, li_80, li_81, li_91, li_93, li_97, li_100, li_122, li_200, li_255, li_256, li_257, li_258, li_259, li_260, li_300, li_314, li_400, li_580, li_999, li_5040, li_9999, li_65536, li_99999, li_7654321] <;> first | rfl | exact congrArg jn (by omega)) | exact congrArg jn (by omega))
      rw [e1, e2, e3, e4]
      rw [jn_cln (by omega), jn_cln (by omega), jn_cln (by omega), jn_cln (by omega)]
      rw [show ((4 : Int32) ≤ jn (i : Int)) = (4 ≤ i) from by rw [li_4, jn_le (by omega) (by omega)]; exact propext ⟨fun q => by omega, fun q => by omega⟩]
      refine ⟨fun z => h1 (rP_t (fun q hq => ha q (by omega))), fun z => ⟨by simp (disch := omega) only [jn_le, jn_lt, jn_eq, jn_in, jn_add, jn_sub, jn_mul, jn_neg, li_0, li_1, li_2, li_3, li_4, li_5, li_6, li_7, li_8, li_9, li_10, li_11, li_12, li_13, li_14, li_15, li_16, li_17, li_18, li_20, li_24, li_29, li_30, li_31, li_32, li_37, li_39, li_40, li_42, li_43, li_45, li_46, li_47, li_48, li_53, li_57, li_59, li_60, li_61, li_62, li_63, li_80, li_81, li_91, li_93, li_97, li_100, li_122, li_200, li_255, li_256, li_257, li_258, li_259, li_260, li_300, li_314, li_400, li_580, li_999, li_5040, li_9999, li_65536, li_99999, li_7654321] <;> omega, by simp (disch := omega) only [jn_le, jn_lt, jn_eq, jn_in, jn_add, jn_sub, jn_mul, jn_neg, li_0, li_1, li_2, li_3, li_4, li_5, li_6, li_7, li_8, li_9, li_10, li_11, li_12, li_13, li_14, li_15, li_16, li_17, li_18, li_20, li_24, li_29, li_30, li_31, li_32, li_37, li_39, li_40, li_42, li_43, li_45, li_46, li_47, li_48, li_53, li_57, li_59, li_60, li_61, li_62, li_63, li_80, li_81, li_91, li_93, li_97, li_100, li_122, li_200, li_255, li_256, li_257, li_258, li_259, li_260, li_300, li_314, li_400, li_580, li_999, li_5040, li_9999, li_65536, li_99999, li_7654321] <;> omega, fun y => ?_, fun y => ⟨by simp (disch := omega) only [jn_le, jn_lt, jn_eq, jn_in, jn_add, jn_sub, jn_mul, jn_neg, li_0, li_1, li_2, li_3, li_4, li_5, li_6, li_7, li_8, li_9, li_10, li_11, li_12, li_13, li_14, li_15, li_16, li_17, li_18, li_20, li_24, li_29, li_30, li_31, li_32, li_37, li_39, li_40, li_42, li_43, li_45, li_46, li_47, li_48, li_53, li_57, li_59, li_60, li_61, li_62, li_63, li_80, li_81, li_91, li_93, li_97, li_100, li_122, li_200, li_255, li_256, li_257, li_258, li_259, li_260, li_300, li_314, li_400, li_580, li_999, li_5040, li_9999, li_65536, li_99999, li_7654321] <;> omega, by simp (disch := omega) only [jn_le, jn_lt, jn_eq, jn_in, jn_add, jn_sub, jn_mul, jn_neg, li_0, li_1, li_2, li_3, li_4, li_5, li_6, li_7, li_8, li_9, li_10, li_11, li_12, li_13, li_14, li_15, li_16, li_17, li_18, li_20, li_24, li_29, li_30, li_31, li_32, li_37, li_39, li_40, li_42, li_43, li_45, li_46, li_47, li_48, li_53, li_57, li_59, li_60, li_61, li_62, li_63, li_80, li_81, li_91, li_93, li_97, li_100, li_122, li_200, li_255, li_256, li_257, li_258, li_259, li_260, li_300, li_314, li_400, li_580, li_999, li_5040, li_9999, li_65536, li_99999, li_7654321] <;> omega, fun u => ?_, fun u => ?_⟩⟩⟩
      · rw [hG _ (by omega), hG _ (by omega)] at y
        exact h0 (rP_f (by omega) (Or.inl y))
      · rw [hG _ (by omega), hG _ (by omega)] at y u
        refine ih (i + 1) _ (by (first | rfl | (simp (disch := omega) only [jn_add, jn_sub, jn_mul, jn_neg, li_0, li_1, li_2, li_3, li_4, li_5, li_6, li_7, li_8, li_9, li_10, li_11, li_12, li_13, li_14, li_15, li_16, li_17, li_18, li_20, li_24, li_29, li_30, li_31, li_32, li_37, li_39, li_40, li_42, li_43, li_45, li_46, li_47, li_48, li_53, li_57, li_59, li_60, li_61, li_62, li_63, li_80, li_81, li_91, li_93, li_97, li_100, li_122, li_200, li_255, li_256, li_257, li_258, li_259, li_260, li_300, li_314, li_400, li_580, li_999, li_5040, li_9999, li_65536, li_99999, li_7654321] <;> first | rfl | exact congrArg jn (by omega)) | exact congrArg jn (by omega))) (by omega) (fun q hq => ?_) (by omega)
        by_cases e : q = i
        · subst e; exact ⟨y, u⟩
        · exact ha q (by omega)
      · rw [hG _ (by omega), hG _ (by omega)] at u
        exact h0 (rP_f (by omega) (Or.inr u))
  exact key N 0 _ rfl (by omega) (fun q hq => by omega) (by omega)
theorem wm_fills {t : Nat} {Q : (Nat → Int64) → Int32 → (Nat → Int64) → (Nat → Int32) → (Nat → Int32) → Prop} {x y z w : Int32} (hN : 500 ≤ N) (hl : LOk l) (hg : GOk (l_k l) g) (hL : mL sd l) (hG : mG (l_k l) sd g) (hkp : ∀ j, j < 29 → kp j = sd (10 + j)) (ht : g_t g < 10000) (hf : ROk r) (hR : mR N sg cl cs fc r) (ha : a < l_k l) (hbk : b < l_k l) (hab : a ≠ b) (hn : n ≤ 20) (htt : t < 16) (hx : x = jn (a : Int)) (hy : y = jn (b : Int)) (hz : z = jn (t : Int)) (hw : w = jn (n : Int))
    (h : ∀ s tp v hb', (∀ i, i ≠ 2 * t → i ≠ 2 * t + 1 → hb' i = hb i) → hb' (2 * t) = gnV l r g n a b t a → hb' (2 * t + 1) = gnV l r g n a b t b → Q s tp v sd hb') : wp_X12_fillsRest N sg cl cs fc kp Q x y z w st tp wd sd hb := by
  have hk := hl.2.2.1
  subst hx hy hz hw
  have p1 := hg.2.2.2 a
  have p2 := hg.2.2.2 b
  unfold wp_X12_fillsRest
  intro x1 e1
  rw [show (2 : Int32) * jn (t : Int) = jn ((2 * t : Nat) : Int) from by (first | rfl | (simp (disch := omega) only [jn_add, jn_sub, jn_mul, jn_neg, li_0, li_1, li_2, li_3, li_4, li_5, li_6, li_7, li_8, li_9, li_10, li_11, li_12, li_13, li_14, li_15, li_16, li_17, li_18, li_20, li_24, li_29, li_30, li_31, li_32, li_37, li_39, li_40, li_42, li_43, li_45, li_46, li_47, li_48, li_53, li_57, li_59, li_60, li_61, li_62, li_63, li_80, li_81, li_91, li_93, li_97, li_100, li_122, li_200, li_255, li_256, li_257, li_258, li_259, li_260, li_300, li_314, li_400, li_580, li_999, li_5040, li_9999, li_65536, li_99999, li_7654321] <;> first | rfl | exact congrArg jn (by omega)) | exact congrArg jn (by omega))] at e1
  subst e1
  have e4 : jn ((2 * t : Nat) : Int) + 1 = jn ((2 * t + 1 : Nat) : Int) := by (first | rfl | (simp (disch := omega) only [jn_add, jn_sub, jn_mul, jn_neg, li_0, li_1, li_2, li_3, li_4, li_5, li_6, li_7, li_8, li_9, li_10, li_11, li_12, li_13, li_14, li_15, li_16, li_17, li_18, li_20, li_24, li_29, li_30, li_31, li_32, li_37, li_39, li_40, li_42, li_43, li_45, li_46, li_47, li_48, li_53, li_57, li_59, li_60, li_61, li_62, li_63, li_80, li_81, li_91, li_93, li_97, li_100, li_122, li_200, li_255, li_256, li_257, li_258, li_259, li_260, li_300, li_314, li_400, li_580, li_999, li_5040, li_9999, li_65536, li_99999, li_7654321] <;> first | rfl | exact congrArg jn (by omega)) | exact congrArg jn (by omega))
  rw [e4, jn_r4 htt, jn_d4 htt]
  refine wm_leaptOf rfl (by omega) ⟨by simp (disch := omega) only [jn_le, jn_lt, jn_eq, jn_in, jn_add, jn_sub, jn_mul, jn_neg, li_0, li_1, li_2, li_3, li_4, li_5, li_6, li_7, li_8, li_9, li_10, li_11, li_12, li_13, li_14, li_15, li_16, li_17, li_18, li_20, li_24, li_29, li_30, li_31, li_32, li_37, li_39, li_40, li_42, li_43, li_45, li_46, li_47, li_48, li_53, li_57, li_59, li_60, li_61, li_62, li_63, li_80, li_81, li_91, li_93, li_97, li_100, li_122, li_200, li_255, li_256, li_257, li_258, li_259, li_260, li_300, li_314, li_400, li_580, li_999, li_5040, li_9999, li_65536, li_99999, li_7654321] <;> omega, fun a3 e3 => ?_⟩
  refine wm_leaptOf rfl (by omega) ⟨by simp (disch := omega) only [jn_le, jn_lt, jn_eq, jn_in, jn_add, jn_sub, jn_mul, jn_neg, li_0, li_1, li_2, li_3, li_4, li_5, li_6, li_7, li_8, li_9, li_10, li_11, li_12, li_13, li_14, li_15, li_16, li_17, li_18, li_20, li_24, li_29, li_30, li_31, li_32, li_37, li_39, li_40, li_42, li_43, li_45, li_46, li_47, li_48, li_53, li_57, li_59, li_60, li_61, li_62, li_63, li_80, li_81, li_91, li_93, li_97, li_100, li_122, li_200, li_255, li_256, li_257, li_258, li_259, li_260, li_300, li_314, li_400, li_580, li_999, li_5040, li_9999, li_65536, li_99999, li_7654321] <;> omega, fun a5 e5 => ⟨by decide, by simp (disch := omega) only [jn_le, jn_lt, jn_eq, jn_in, jn_add, jn_sub, jn_mul, jn_neg, li_0, li_1, li_2, li_3, li_4, li_5, li_6, li_7, li_8, li_9, li_10, li_11, li_12, li_13, li_14, li_15, li_16, li_17, li_18, li_20, li_24, li_29, li_30, li_31, li_32, li_37, li_39, li_40, li_42, li_43, li_45, li_46, li_47, li_48, li_53, li_57, li_59, li_60, li_61, li_62, li_63, li_80, li_81, li_91, li_93, li_97, li_100, li_122, li_200, li_255, li_256, li_257, li_258, li_259, li_260, li_300, li_314, li_400, li_580, li_999, li_5040, li_9999, li_65536, li_99999, li_7654321] <;> omega, fun a6 e6 => ⟨by decide, by simp (disch := omega) only [jn_le, jn_lt, jn_eq, jn_in, jn_add, jn_sub, jn_mul, jn_neg, li_0, li_1, li_2, li_3, li_4, li_5, li_6, li_7, li_8, li_9, li_10, li_11, li_12, li_13, li_14, li_15, li_16, li_17, li_18, li_20, li_24, li_29, li_30, li_31, li_32, li_37, li_39, li_40, li_42, li_43, li_45, li_46, li_47, li_48, li_53, li_57, li_59, li_60, li_61, li_62, li_63, li_80, li_81, li_91, li_93, li_97, li_100, li_122, li_200, li_255, li_256, li_257, li_258, li_259, li_260, li_300, li_314, li_400, li_580, li_999, li_5040, li_9999, li_65536, li_99999, li_7654321] <;> omega, fun a7 e7 => ?_⟩⟩⟩
  rw [jn_cln (by omega)] at e3 e5
  rw [show (11 : Int32) + (4 : Int32) * jn (a : Int) = jn ((11 + 4 * a : Nat) : Int) from by (first | rfl | (simp (disch := omega) only [jn_add, jn_sub, jn_mul, jn_neg, li_0, li_1, li_2, li_3, li_4, li_5, li_6, li_7, li_8, li_9, li_10, li_11, li_12, li_13, li_14, li_15, li_16, li_17, li_18, li_20, li_24, li_29, li_30, li_31, li_32, li_37, li_39, li_40, li_42, li_43, li_45, li_46, li_47, li_48, li_53, li_57, li_59, li_60, li_61, li_62, li_63, li_80, li_81, li_91, li_93, li_97, li_100, li_122, li_200, li_255, li_256, li_257, li_258, li_259, li_260, li_300, li_314, li_400, li_580, li_999, li_5040, li_9999, li_65536, li_99999, li_7654321] <;> first | rfl | exact congrArg jn (by omega)) | exact congrArg jn (by omega)), jn_cln (by omega), show (5 : Int32) * (jn ((t / 4 : Nat) : Int) + 1) = jn ((5 * (t / 4 + 1) : Nat) : Int) from by (first | rfl | (simp (disch := omega) only [jn_add, jn_sub, jn_mul, jn_neg, li_0, li_1, li_2, li_3, li_4, li_5, li_6, li_7, li_8, li_9, li_10, li_11, li_12, li_13, li_14, li_15, li_16, li_17, li_18, li_20, li_24, li_29, li_30, li_31, li_32, li_37, li_39, li_40, li_42, li_43, li_45, li_46, li_47, li_48, li_53, li_57, li_59, li_60, li_61, li_62, li_63, li_80, li_81, li_91, li_93, li_97, li_100, li_122, li_200, li_255, li_256, li_257, li_258, li_259, li_260, li_300, li_314, li_400, li_580, li_999, li_5040, li_9999, li_65536, li_99999, li_7654321] <;> first | rfl | exact congrArg jn (by omega)) | exact congrArg jn (by omega))] at e6
  rw [show (11 : Int32) + (4 : Int32) * jn (b : Int) = jn ((11 + 4 * b : Nat) : Int) from by (first | rfl | (simp (disch := omega) only [jn_add, jn_sub, jn_mul, jn_neg, li_0, li_1, li_2, li_3, li_4, li_5, li_6, li_7, li_8, li_9, li_10, li_11, li_12, li_13, li_14, li_15, li_16, li_17, li_18, li_20, li_24, li_29, li_30, li_31, li_32, li_37, li_39, li_40, li_42, li_43, li_45, li_46, li_47, li_48, li_53, li_57, li_59, li_60, li_61, li_62, li_63, li_80, li_81, li_91, li_93, li_97, li_100, li_122, li_200, li_255, li_256, li_257, li_258, li_259, li_260, li_300, li_314, li_400, li_580, li_999, li_5040, li_9999, li_65536, li_99999, li_7654321] <;> first | rfl | exact congrArg jn (by omega)) | exact congrArg jn (by omega)), jn_cln (by omega), show (5 : Int32) * (jn ((t % 4 : Nat) : Int) + 1) = jn ((5 * (t % 4 + 1) : Nat) : Int) from by (first | rfl | (simp (disch := omega) only [jn_add, jn_sub, jn_mul, jn_neg, li_0, li_1, li_2, li_3, li_4, li_5, li_6, li_7, li_8, li_9, li_10, li_11, li_12, li_13, li_14, li_15, li_16, li_17, li_18, li_20, li_24, li_29, li_30, li_31, li_32, li_37, li_39, li_40, li_42, li_43, li_45, li_46, li_47, li_48, li_53, li_57, li_59, li_60, li_61, li_62, li_63, li_80, li_81, li_91, li_93, li_97, li_100, li_122, li_200, li_255, li_256, li_257, li_258, li_259, li_260, li_300, li_314, li_400, li_580, li_999, li_5040, li_9999, li_65536, li_99999, li_7654321] <;> first | rfl | exact congrArg jn (by omega)) | exact congrArg jn (by omega))] at e7
  have hF7 : mF (l_k l) sd a7 := by
    rw [e7, e6]; exact mF_upd (mF_upd mF_refl (by omega)) (by omega)
  have hG7 : mG (l_k l) a7 (rsG g a b t) := by
    refine ⟨?_, fun d hd => ?_, fun d hd => ?_, fun p hp => ?_, fun d hd => ?_⟩
    · rw [e7, upd_ne (by omega), e6, upd_ne (by omega)]; exact hG.1
    · show a7 (11 + 4 * d) = jn (un (un (g_b g) a (5 * (t / 4 + 1))) b (5 * (t % 4 + 1)) d : Int)
      by_cases q1 : d = b
      · rw [e7, q1, upd_at, un_at]
      · rw [e7, upd_ne (by omega), un_ne q1, e6]
        by_cases q2 : d = a
        · rw [q2, upd_at, un_at]
        · rw [upd_ne (by omega), un_ne q2]; exact hG.2.1 d hd
    · rw [e7, upd_ne (by omega), e6, upd_ne (by omega)]; exact hG.2.2.1 d hd
    · rw [e7, upd_ne (by omega), e6, upd_ne (by omega)]; exact hG.2.2.2.1 p hp
    · rw [e7, upd_ne (by omega), e6, upd_ne (by omega)]; exact hG.2.2.2.2 d hd
  refine wm_passesAll hN (by omega) rfl hl (rsG_ok htt hg) (mF_L hl hF7 hL) hG7 (show g_t g + n < 1000000 by omega) hf hR (fun s tp v sd' a1 a2 => ⟨by simp (disch := omega) only [jn_le, jn_lt, jn_eq, jn_in, jn_add, jn_sub, jn_mul, jn_neg, li_0, li_1, li_2, li_3, li_4, li_5, li_6, li_7, li_8, li_9, li_10, li_11, li_12, li_13, li_14, li_15, li_16, li_17, li_18, li_20, li_24, li_29, li_30, li_31, li_32, li_37, li_39, li_40, li_42, li_43, li_45, li_46, li_47, li_48, li_53, li_57, li_59, li_60, li_61, li_62, li_63, li_80, li_81, li_91, li_93, li_97, li_100, li_122, li_200, li_255, li_256, li_257, li_258, li_259, li_260, li_300, li_314, li_400, li_580, li_999, li_5040, li_9999, li_65536, li_99999, li_7654321] <;> omega, ?_⟩)
  have hgt := tI_ok (r := r) hl (n := n) (rsG_ok (a := a) (b := b) htt hg)
  have q1 := hgt.2.2.2 a
  have q2 := hgt.2.2.2 b
  have r1 : plc l (tI l r n (rsG g a b t)) a < l_k l := iv_lt hgt.1 ha
  have r2 : plc l (tI l r n (rsG g a b t)) b < l_k l := iv_lt hgt.1 hbk
  refine wm_leaptOf rfl (by omega) (wm_placeOf rfl (by omega) ⟨by simp (disch := omega) only [jn_le, jn_lt, jn_eq, jn_in, jn_add, jn_sub, jn_mul, jn_neg, li_0, li_1, li_2, li_3, li_4, li_5, li_6, li_7, li_8, li_9, li_10, li_11, li_12, li_13, li_14, li_15, li_16, li_17, li_18, li_20, li_24, li_29, li_30, li_31, li_32, li_37, li_39, li_40, li_42, li_43, li_45, li_46, li_47, li_48, li_53, li_57, li_59, li_60, li_61, li_62, li_63, li_80, li_81, li_91, li_93, li_97, li_100, li_122, li_200, li_255, li_256, li_257, li_258, li_259, li_260, li_300, li_314, li_400, li_580, li_999, li_5040, li_9999, li_65536, li_99999, li_7654321] <;> omega, fun a14 e14 => ⟨by simp (disch := omega) only [jn_le, jn_lt, jn_eq, jn_in, jn_add, jn_sub, jn_mul, jn_neg, li_0, li_1, li_2, li_3, li_4, li_5, li_6, li_7, li_8, li_9, li_10, li_11, li_12, li_13, li_14, li_15, li_16, li_17, li_18, li_20, li_24, li_29, li_30, li_31, li_32, li_37, li_39, li_40, li_42, li_43, li_45, li_46, li_47, li_48, li_53, li_57, li_59, li_60, li_61, li_62, li_63, li_80, li_81, li_91, li_93, li_97, li_100, li_122, li_200, li_255, li_256, li_257, li_258, li_259, li_260, li_300, li_314, li_400, li_580, li_999, li_5040, li_9999, li_65536, li_99999, li_7654321] <;> omega, ?_⟩⟩)
  refine wm_leaptOf rfl (by omega) (wm_placeOf rfl (by omega) ⟨by simp (disch := omega) only [jn_le, jn_lt, jn_eq, jn_in, jn_add, jn_sub, jn_mul, jn_neg, li_0, li_1, li_2, li_3, li_4, li_5, li_6, li_7, li_8, li_9, li_10, li_11, li_12, li_13, li_14, li_15, li_16, li_17, li_18, li_20, li_24, li_29, li_30, li_31, li_32, li_37, li_39, li_40, li_42, li_43, li_45, li_46, li_47, li_48, li_53, li_57, li_59, li_60, li_61, li_62, li_63, li_80, li_81, li_91, li_93, li_97, li_100, li_122, li_200, li_255, li_256, li_257, li_258, li_259, li_260, li_300, li_314, li_400, li_580, li_999, li_5040, li_9999, li_65536, li_99999, li_7654321] <;> omega, fun a17 e17 => ?_⟩)
  rw [jn_cln (by omega), a1.2.2.2.2 a ha, mG_plc hgt a1 ha] at e14
  rw [jn_cln (by omega), a1.2.2.2.2 b hbk, mG_plc hgt a1 hbk] at e17
  rw [hG.2.2.2.2 a ha] at e3
  rw [hG.2.2.2.2 b hbk] at e5
  refine wm_back (by omega) hkp (mF_7 hk (mF_trans hF7 a2)) (h _ _ _ _ (fun i i1 i2 => ?_) ?_ ?_)
  · rw [e17, upd_ne i2, e14, upd_ne i1, e5, upd_ne i2, e3, upd_ne i1]
  · rw [e17, upd_ne (by omega), e14, upd_at, e5, upd_ne (by omega), e3, upd_at]
    unfold gnV
    rw [show (-2 : Int32) = jn (-2) from rfl, li_2, jn_mul, jn_mul, jn_sub, jn_add]
    exact congrArg jn (by omega)
  · rw [e17, upd_at, e14, upd_ne (by omega), e5, upd_at]
    unfold gnV
    rw [show (-2 : Int32) = jn (-2) from rfl, li_2, jn_mul, jn_mul, jn_sub, jn_add]
    exact congrArg jn (by omega)
theorem wm_rests {Q : Int32 → (Nat → Int64) → Int32 → (Nat → Int64) → (Nat → Int32) → (Nat → Int32) → (Nat → Int32) → Prop} {x y z w : Int32} (hN : 500 ≤ N) (hl : LOk l) (hg : GOk (l_k l) g) (hL : mL sd l) (hG : mG (l_k l) sd g) (ht : g_t g < 10000) (hf : ROk r) (hR : mR N sg cl cs fc r)
    (h0 : (∀ a b n, ¬ qRs l x y z w a b n) → ∀ s t v kp hb, Q (-1) s t v sd kp hb) (h1 : ∀ a b n, qRs l x y z w a b n → ∀ s t v kp hb, Q (aRs (rP (gnA l r g n a b)) w) s t v sd kp hb) : wp_X12_rests N sg cl cs fc Q x y z w st tp wd sd kp hb := by
  have hk := hl.2.2.1
  obtain ⟨e, rfl, he⟩ := jn_of z
  obtain ⟨d, rfl, hd⟩ := jn_of w
  have qb : ∀ a b n, qRs l x y (jn e) (jn d) a b n → asC (l_k l) x = some a ∧ asC (l_k l) y = some b ∧ a ≠ b ∧ e = n ∧ 1 ≤ n ∧ n ≤ 20 ∧ 0 ≤ d ∧ d ≤ 2 := by
    rintro a b n ⟨q1, q2, q3, q4, q5, q6, q7⟩
    rw [jn_eq he (by omega)] at q4
    rw [li_0, li_1, li_2, jn_eq hd (by omega), jn_eq hd (by omega), jn_eq hd (by omega)] at q7
    exact ⟨q1, q2, q3, q4, q5, q6, by omega, by omega⟩
  unfold wp_X12_rests wp_X12_rests_46
  refine wm_isCh hk hL.2.2.1 (fun hno => ⟨fun _ => h0 (fun a b n hq => by have := (qb a b n hq).1; rw [hno] at this; cases this) _ _ _ _ _, fun q => absurd rfl q⟩) (fun a hc hs hx => ⟨fun q => absurd q (by decide), fun _ => ?_⟩)
  refine wm_isCh hk hL.2.2.1 (fun hno => ⟨fun _ => h0 (fun a b n hq => by have := (qb a b n hq).2.1; rw [hno] at this; cases this) _ _ _ _ _, fun q => absurd rfl q⟩) (fun b hcb hsb hxb => ⟨fun q => absurd q (by decide), fun _ => ?_⟩)
  rw [hx, hxb, jn_eq (by omega) (by omega)]
  refine ⟨fun z => h0 (fun a' b' n hq => ?_) _ _ _ _ _, fun z => ?_⟩
  · have := qb a' b' n hq
    rw [hs, hsb] at this
    obtain ⟨q1, q2, q3, -⟩ := this
    cases q1; cases q2
    exact q3 (by omega)
  refine wm_inC (b := 1) (c := 20) rfl rfl rfl he (by decide) (by decide) (fun q1 => ⟨fun u => absurd u (by decide), fun _ => ?_⟩) (fun q1 => ⟨fun _ => h0 (fun a b n hq => by have := qb a b n hq; omega) _ _ _ _ _, fun u => absurd rfl u⟩)
  refine wm_inC (b := 0) (c := 2) rfl rfl rfl hd (by decide) (by decide) (fun q2 => ⟨fun u => absurd u (by decide), fun _ => ?_⟩) (fun q2 => ⟨fun _ => h0 (fun a b n hq => by have := qb a b n hq; omega) _ _ _ _ _, fun u => absurd rfl u⟩)
  obtain ⟨n, rfl⟩ : ∃ n : Nat, e = n := ⟨e.toNat, by omega⟩
  have hQ := h1 a b n ⟨hs, hsb, by omega, rfl, by omega, by omega, by rw [li_0, li_1, li_2, jn_eq hd (by omega), jn_eq hd (by omega), jn_eq hd (by omega)]; omega⟩
  refine wm_keeps (by omega) (fun kp' hkp => ?_)
  have key2 : ∀ (hb : Nat → Int32) (tp : Int32) (st wd : Nat → Int64), (∀ i, i < 32 → hb i = gnA l r g n a b i) → ∀ (k i : Nat) (v5 v6 v7 : Int32) (bg : Int), v7 = jn ((i : Int) - 1) → i ≤ 16 → v5 = jn ((cnt (rP (gnA l r g n a b)) 16 : Int) - (cnt (rP (gnA l r g n a b)) i : Int)) → v6 = jn bg → DnI (rP (gnA l r g n a b)) 16 i bg → i < k → wp_X12_rests_87 N sg cl cs fc Q k (jn d) v5 v6 v7 st tp wd sd kp' hb := by
    intro hb tp st wd hhb k
    induction k with
    | zero => intro i v5 v6 v7 bg _ _ _ _ _ h2; omega
    | succ k ih =>
      intro i v5 v6 v7 bg e7 hi e5 e6 hD hk'
      subst e7
      have hbb : -1 ≤ bg ∧ bg < 16 := by
        rcases hD with ⟨rfl, -⟩ | ⟨q, rfl, -, q2, -⟩ <;> omega
      unfold wp_X12_rests_87 wp_X12_rests_166 wp_X12_rests_117
      rw [show (jn ((i : Int) - 1) < 0) = (i = 0) from by rw [li_0, jn_lt (by omega) (by omega)]; exact propext ⟨fun q => by omega, fun q => by omega⟩]
      refine ⟨fun z => ?_, fun z => ?_⟩
      · subst z
        have hfe := DnI_end hD
        unfold aRs at hQ
        rw [← hfe] at hQ
        rw [show ((cnt (rP (gnA l r g n a b)) 16 : Int) - (cnt (rP (gnA l r g n a b)) 0 : Int)) = (cnt (rP (gnA l r g n a b)) 16 : Int) from by show (cnt (rP (gnA l r g n a b)) 16 : Int) - ((0 : Nat) : Int) = _; omega] at e5
        refine ⟨fun y => ?_, fun y => ⟨fun y1 => ?_, fun y1 => ?_⟩⟩
        · rw [if_pos y] at hQ; rw [e5]; exact hQ _ _ _ _ _
        · rw [e6, li_0, jn_le (by omega) (by omega)] at y1
          rw [if_neg y, if_neg (by omega)] at hQ
          obtain ⟨fi, rfl⟩ : ∃ fi : Nat, bg = fi := ⟨bg.toNat, by omega⟩
          subst e6
          refine ⟨fun y2 => ⟨by decide, ?_⟩, fun y2 => ⟨by decide, ?_⟩⟩
          · rw [if_pos y2] at hQ
            rw [jn_d4 (by omega), show (5 : Int32) * (jn ((fi / 4 : Nat) : Int) + 1) = jn (5 * ((fi : Int) / 4 + 1)) from by (first | rfl | (simp (disch := omega) only [jn_add, jn_sub, jn_mul, jn_neg, li_0, li_1, li_2, li_3, li_4, li_5, li_6, li_7, li_8, li_9, li_10, li_11, li_12, li_13, li_14, li_15, li_16, li_17, li_18, li_20, li_24, li_29, li_30, li_31, li_32, li_37, li_39, li_40, li_42, li_43, li_45, li_46, li_47, li_48, li_53, li_57, li_59, li_60, li_61, li_62, li_63, li_80, li_81, li_91, li_93, li_97, li_100, li_122, li_200, li_255, li_256, li_257, li_258, li_259, li_260, li_300, li_314, li_400, li_580, li_999, li_5040, li_9999, li_65536, li_99999, li_7654321] <;> first | rfl | exact congrArg jn (by omega)) | exact congrArg jn (by omega))]
            exact hQ _ _ _ _ _
          · rw [if_neg y2] at hQ
            rw [jn_r4 (by omega), show (5 : Int32) * (jn ((fi % 4 : Nat) : Int) + 1) = jn (5 * ((fi : Int) % 4 + 1)) from by (first | rfl | (simp (disch := omega) only [jn_add, jn_sub, jn_mul, jn_neg, li_0, li_1, li_2, li_3, li_4, li_5, li_6, li_7, li_8, li_9, li_10, li_11, li_12, li_13, li_14, li_15, li_16, li_17, li_18, li_20, li_24, li_29, li_30, li_31, li_32, li_37, li_39, li_40, li_42, li_43, li_45, li_46, li_47, li_48, li_53, li_57, li_59, li_60, li_61, li_62, li_63, li_80, li_81, li_91, li_93, li_97, li_100, li_122, li_200, li_255, li_256, li_257, li_258, li_259, li_260, li_300, li_314, li_400, li_580, li_999, li_5040, li_9999, li_65536, li_99999, li_7654321] <;> first | rfl | exact congrArg jn (by omega)) | exact congrArg jn (by omega))]
            exact hQ _ _ _ _ _
        · rw [e6, li_0, jn_le (by omega) (by omega)] at y1
          rw [if_neg y, if_pos (by omega)] at hQ
          exact hQ _ _ _ _ _
      · obtain ⟨i, rfl⟩ : ∃ i', i = i' + 1 := ⟨i - 1, by omega⟩
        rw [show jn (((i + 1 : Nat) : Int) - 1) = jn (i : Int) from congrArg jn (by omega)]
        refine ⟨by decide, by decide, ?_⟩
        rw [jn_r4 (by omega), jn_d4 (by omega)]
        have st7 : jn (i : Int) + (-1) = jn ((i : Int) - 1) := by
          rw [show (-1 : Int32) = jn (-1) from rfl, jn_add]; exact congrArg jn (by omega)
        have hc := cnt_le (f := rP (gnA l r g n a b)) (n := i)
        refine wm_isRest (by omega) hhb (show i < 16 by omega) rfl rfl (fun hr => ⟨fun u => absurd u (by decide), fun _ => ?_⟩) (fun hr => ⟨fun _ => ?_, fun u => absurd rfl u⟩)
        · refine ih i _ _ _ (i : Int) st7 (by omega) ?_ rfl (DnI_t (by omega) hr) (by omega)
          have hcs := cnt_succ (f := rP (gnA l r g n a b)) (n := i)
          rw [if_pos hr] at hcs
          rw [e5, li_1, jn_add]; exact congrArg jn (by omega)
        · refine ih i _ _ _ bg st7 (by omega) ?_ e6 (DnI_f hD hr) (by omega)
          have hcs := cnt_succ (f := rP (gnA l r g n a b)) (n := i)
          rw [if_neg (by rw [hr]; decide)] at hcs
          rw [e5]; exact congrArg jn (by omega)
  have key1 : ∀ (k t : Nat) (v5 tp : Int32) (st wd : Nat → Int64) (hb : Nat → Int32), v5 = jn (t : Int) → t ≤ 16 → (∀ i, i < 2 * t → hb i = gnA l r g n a b i) → 16 < k + t → wp_X12_rests_55 N sg cl cs fc Q k (jn (a : Int)) (jn (b : Int)) (jn (n : Int)) (jn d) v5 st tp wd sd kp' hb := by
    intro k
    induction k with
    | zero => intro t v5 tp st wd hb _ h1 _ h2; omega
    | succ k ih =>
      intro t v5 tp st wd hb e hi hhb hk'
      subst e
      unfold wp_X12_rests_55
      rw [show ((16 : Int32) ≤ jn (t : Int)) = (16 ≤ t) from by rw [li_16, jn_le (by omega) (by omega)]; exact propext ⟨fun q => by omega, fun q => by omega⟩]
      refine ⟨fun z => key2 hb tp st wd (fun i hi => hhb i (by omega)) N 16 _ _ _ (-1) rfl (by omega) ?_ rfl (Or.inl ⟨rfl, fun j a b => by omega⟩) (by omega), fun z => ?_⟩
      · rw [Int.sub_self]; rfl
      · refine wm_fills hN hl hg hL hG hkp ht hf hR hc hcb (by omega) (by omega) (show t < 16 by omega) rfl rfl rfl rfl (fun s tp v hb' b1 b2 b3 => ?_)
        refine ih (t + 1) _ _ _ _ _ (by (first | rfl | (simp (disch := omega) only [jn_add, jn_sub, jn_mul, jn_neg, li_0, li_1, li_2, li_3, li_4, li_5, li_6, li_7, li_8, li_9, li_10, li_11, li_12, li_13, li_14, li_15, li_16, li_17, li_18, li_20, li_24, li_29, li_30, li_31, li_32, li_37, li_39, li_40, li_42, li_43, li_45, li_46, li_47, li_48, li_53, li_57, li_59, li_60, li_61, li_62, li_63, li_80, li_81, li_91, li_93, li_97, li_100, li_122, li_200, li_255, li_256, li_257, li_258, li_259, li_260, li_300, li_314, li_400, li_580, li_999, li_5040, li_9999, li_65536, li_99999, li_7654321] <;> first | rfl | exact congrArg jn (by omega)) | exact congrArg jn (by omega))) (by omega) (fun i hi2 => ?_) (by omega)
        by_cases q1 : i = 2 * t + 1
        · rw [q1, b3]
          unfold gnA
          rw [if_neg (by omega), show (2 * t + 1) / 2 = t by omega]
        · by_cases q2 : i = 2 * t
          · rw [q2, b2]
            unfold gnA
            rw [if_pos (by omega), show (2 * t) / 2 = t by omega]
          · rw [b1 i q2 q1]; exact hhb i (by omega)
  exact key1 N 0 _ _ _ _ _ rfl (by omega) (fun i hi => by omega) (by omega)
end MRS
