/-! the reference: calls that change what is -/
section MCA
variable {N : Nat} {a : aS} {tp sg cl cs sd ws im ifc ix imd : Nat → Int32} {td ru fc x ud : Int32}
theorem wm_four {n : Nat} {b : Nat → Int} {v : Int32} {Q : (Nat → Int32) → Int32 → Prop} {tp : Nat → Int32} {td : Int32} (hN : 10 ≤ N) (hn : n + 4 ≤ 400) (hB : ∀ i, i < n → tp i = jn (b i)) (htd : td = jn (n : Int)) (h : ∀ tp', (∀ i, i < n + 4 → tp' i = jn (put4 b n v i)) → Q tp' (jn ((n + 4 : Nat) : Int))) : wp_X12_four N Q v tp td := by
  subst htd
  unfold wp_X12_four
  have by1 : ∀ k : Nat, vp_nar .byte ((v >>> (jn (k : Int) &&& 31)).toInt8.toInt32) = jn (byt v k) := fun k => (Int32.ofInt_toInt _).symm
  have key : ∀ m, wp_X12_four_3 N Q (m + 5) v 24 tp (jn (n : Int)) := by
    intro m
    unfold wp_X12_four_3
    refine ⟨fun q => absurd q (by decide), fun _ => ⟨by simp (disch := omega) only [jn_le, jn_lt, jn_eq, jn_in, jn_add, jn_sub, jn_mul, jn_neg, li_0, li_1, li_2, li_3, li_4, li_5, li_6, li_7, li_8, li_9, li_10, li_11, li_12, li_13, li_14, li_15, li_16, li_17, li_18, li_20, li_24, li_29, li_30, li_31, li_32, li_37, li_39, li_40, li_42, li_43, li_45, li_46, li_47, li_48, li_53, li_57, li_59, li_60, li_61, li_62, li_63, li_80, li_81, li_91, li_93, li_97, li_100, li_122, li_200, li_255, li_256, li_257, li_258, li_259, li_260, li_300, li_314, li_400, li_580, li_999, li_5040, li_9999, li_65536, li_99999, li_7654321] <;> omega, fun a1 e1 => ?_⟩⟩
    rw [show (24 : Int32) + (-8) = 16 from rfl, show jn (n : Int) + 1 = jn ((n + 1 : Nat) : Int) from by (first | rfl | (simp (disch := omega) only [jn_add, jn_sub, jn_mul, jn_neg, li_0, li_1, li_2, li_3, li_4, li_5, li_6, li_7, li_8, li_9, li_10, li_11, li_12, li_13, li_14, li_15, li_16, li_17, li_18, li_20, li_24, li_29, li_30, li_31, li_32, li_37, li_39, li_40, li_42, li_43, li_45, li_46, li_47, li_48, li_53, li_57, li_59, li_60, li_61, li_62, li_63, li_80, li_81, li_91, li_93, li_97, li_100, li_122, li_200, li_255, li_256, li_257, li_258, li_259, li_260, li_300, li_314, li_400, li_580, li_999, li_5040, li_9999, li_65536, li_99999, li_7654321] <;> first | rfl | exact congrArg jn (by omega)) | exact congrArg jn (by omega))]
    unfold wp_X12_four_3
    refine ⟨fun q => absurd q (by decide), fun _ => ⟨by simp (disch := omega) only [jn_le, jn_lt, jn_eq, jn_in, jn_add, jn_sub, jn_mul, jn_neg, li_0, li_1, li_2, li_3, li_4, li_5, li_6, li_7, li_8, li_9, li_10, li_11, li_12, li_13, li_14, li_15, li_16, li_17, li_18, li_20, li_24, li_29, li_30, li_31, li_32, li_37, li_39, li_40, li_42, li_43, li_45, li_46, li_47, li_48, li_53, li_57, li_59, li_60, li_61, li_62, li_63, li_80, li_81, li_91, li_93, li_97, li_100, li_122, li_200, li_255, li_256, li_257, li_258, li_259, li_260, li_300, li_314, li_400, li_580, li_999, li_5040, li_9999, li_65536, li_99999, li_7654321] <;> omega, fun a2 e2 => ?_⟩⟩
    rw [show (16 : Int32) + (-8) = 8 from rfl, show jn ((n + 1 : Nat) : Int) + 1 = jn ((n + 2 : Nat) : Int) from by (first | rfl | (simp (disch := omega) only [jn_add, jn_sub, jn_mul, jn_neg, li_0, li_1, li_2, li_3, li_4, li_5, li_6, li_7, li_8, li_9, li_10, li_11, li_12, li_13, li_14, li_15, li_16, li_17, li_18, li_20, li_24, li_29, li_30, li_31, li_32, li_37, li_39, li_40, li_42, li_43, li_45, li_46, li_47, li_48, li_53, li_57, li_59, li_60, li_61, li_62, li_63, li_80, li_81, li_91, li_93, li_97, li_100, li_122, li_200, li_255, li_256, li_257, li_258, li_259, li_260, li_300, li_314, li_400, li_580, li_999, li_5040, li_9999, li_65536, li_99999, li_7654321] <;> first | rfl | exact congrArg jn (by omega)) | exact congrArg jn (by omega))]
    unfold wp_X12_four_3
    refine ⟨fun q => absurd q (by decide), fun _ => ⟨by simp (disch := omega) only [jn_le, jn_lt, jn_eq, jn_in, jn_add, jn_sub, jn_mul, jn_neg, li_0, li_1, li_2, li_3, li_4, li_5, li_6, li_7, li_8, li_9, li_10, li_11, li_12, li_13, li_14, li_15, li_16, li_17, li_18, li_20, li_24, li_29, li_30, li_31, li_32, li_37, li_39, li_40, li_42, li_43, li_45, li_46, li_47, li_48, li_53, li_57, li_59, li_60, li_61, li_62, li_63, li_80, li_81, li_91, li_93, li_97, li_100, li_122, li_200, li_255, li_256, li_257, li_258, li_259, li_260, li_300, li_314, li_400, li_580, li_999, li_5040, li_9999, li_65536, li_99999, li_7654321] <;> omega, fun a3 e3 => ?_⟩⟩
    rw [show (8 : Int32) + (-8) = 0 from rfl, show jn ((n + 2 : Nat) : Int) + 1 = jn ((n + 3 : Nat) : Int) from by (first | rfl | (simp (disch := omega) only [jn_add, jn_sub, jn_mul, jn_neg, li_0, li_1, li_2, li_3, li_4, li_5, li_6, li_7, li_8, li_9, li_10, li_11, li_12, li_13, li_14, li_15, li_16, li_17, li_18, li_20, li_24, li_29, li_30, li_31, li_32, li_37, li_39, li_40, li_42, li_43, li_45, li_46, li_47, li_48, li_53, li_57, li_59, li_60, li_61, li_62, li_63, li_80, li_81, li_91, li_93, li_97, li_100, li_122, li_200, li_255, li_256, li_257, li_258, li_259, li_260, li_300, li_314, li_400, li_580, li_999, li_5040, li_9999, li_65536, li_99999, li_7654321] <;> first | rfl | exact congrArg jn (by omega)) | exact congrArg jn (by omega))]
    unfold wp_X12_four_3
    refine ⟨fun q => absurd q (by decide), fun _ => ⟨by simp (disch := omega) only [jn_le, jn_lt, jn_eq, jn_in, jn_add, jn_sub, jn_mul, jn_neg, li_0, li_1, li_2, li_3, li_4, li_5, li_6, li_7, li_8, li_9, li_10, li_11, li_12, li_13, li_14, li_15, li_16, li_17, li_18, li_20, li_24, li_29, li_30, li_31, li_32, li_37, li_39, li_40, li_42, li_43, li_45, li_46, li_47, li_48, li_53, li_57, li_59, li_60, li_61, li_62, li_63, li_80, li_81, li_91, li_93, li_97, li_100, li_122, li_200, li_255, li_256, li_257, li_258, li_259, li_260, li_300, li_314, li_400, li_580, li_999, li_5040, li_9999, li_65536, li_99999, li_7654321] <;> omega, fun a4 e4 => ?_⟩⟩
    rw [show (0 : Int32) + (-8) = -8 from rfl, show jn ((n + 3 : Nat) : Int) + 1 = jn ((n + 4 : Nat) : Int) from by (first | rfl | (simp (disch := omega) only [jn_add, jn_sub, jn_mul, jn_neg, li_0, li_1, li_2, li_3, li_4, li_5, li_6, li_7, li_8, li_9, li_10, li_11, li_12, li_13, li_14, li_15, li_16, li_17, li_18, li_20, li_24, li_29, li_30, li_31, li_32, li_37, li_39, li_40, li_42, li_43, li_45, li_46, li_47, li_48, li_53, li_57, li_59, li_60, li_61, li_62, li_63, li_80, li_81, li_91, li_93, li_97, li_100, li_122, li_200, li_255, li_256, li_257, li_258, li_259, li_260, li_300, li_314, li_400, li_580, li_999, li_5040, li_9999, li_65536, li_99999, li_7654321] <;> first | rfl | exact congrArg jn (by omega)) | exact congrArg jn (by omega))]
    unfold wp_X12_four_3
    refine ⟨fun _ => h a4 (fun i hi => ?_), fun q => absurd (by decide) q⟩
    have b1 : vp_nar .byte ((v >>> ((24 : Int32) &&& 31)).toInt8.toInt32) = jn (byt v 24) := by1 24
    have b2 : vp_nar .byte ((v >>> ((16 : Int32) &&& 31)).toInt8.toInt32) = jn (byt v 16) := by1 16
    have b3 : vp_nar .byte ((v >>> ((8 : Int32) &&& 31)).toInt8.toInt32) = jn (byt v 8) := by1 8
    have b4 : vp_nar .byte ((v >>> ((0 : Int32) &&& 31)).toInt8.toInt32) = jn (byt v 0) := by1 0
    rw [jn_cln (by omega), b1] at e1
    rw [jn_cln (by omega), b2] at e2
    rw [jn_cln (by omega), b3] at e3
    rw [jn_cln (by omega), b4] at e4
    unfold put4
    rw [e4, e3, e2, e1]
    by_cases q0 : i = n + 3
    · rw [q0, upd_at, if_neg (by omega), if_neg (by omega), if_neg (by omega), if_pos rfl]
    · rw [upd_ne q0]
      by_cases q1 : i = n + 2
      · rw [q1, upd_at, if_neg (by omega), if_neg (by omega), if_pos rfl]
      · rw [upd_ne q1]
        by_cases q2 : i = n + 1
        · rw [q2, upd_at, if_neg (by omega), if_pos rfl]
        · rw [upd_ne q2]
          by_cases q3 : i = n
          · rw [q3, upd_at, if_pos rfl]
          · rw [upd_ne q3, if_neg q3, if_neg q2, if_neg q1, if_neg q0]; exact hB i (by omega)
  have := key (N - 5)
  rwa [show N - 5 + 5 = N by omega] at this
theorem wl_put {n : Nat} {b : Nat → Int} {v : Int32} {Q : (Nat → Int32) → Int32 → Prop} {tp : Nat → Int32} {td : Int32} (hN : 10 ≤ N) (hn : n + 4 ≤ 400) (hB : ∀ i, i < n → tp i = jn (b i)) (htd : td = jn (n : Int)) (h : ∀ tp', (∀ i, i < n + 4 → tp' i = jn (put4 b n v i)) → Q tp' (jn ((n + 4 : Nat) : Int))) : wp_X9_put N Q v tp td := by
  subst htd
  unfold wp_X9_put
  have by1 : ∀ k : Nat, vp_nar .byte ((v >>> (jn (k : Int) &&& 31)).toInt8.toInt32) = jn (byt v k) := fun k => (Int32.ofInt_toInt _).symm
  have key : ∀ m, wp_X9_put_3 N Q (m + 5) v 24 tp (jn (n : Int)) := by
    intro m
    unfold wp_X9_put_3
    refine ⟨fun q => absurd q (by decide), fun _ => ⟨by simp (disch := omega) only [jn_le, jn_lt, jn_eq, jn_in, jn_add, jn_sub, jn_mul, jn_neg, li_0, li_1, li_2, li_3, li_4, li_5, li_6, li_7, li_8, li_9, li_10, li_11, li_12, li_13, li_14, li_15, li_16, li_17, li_18, li_20, li_24, li_29, li_30, li_31, li_32, li_37, li_39, li_40, li_42, li_43, li_45, li_46, li_47, li_48, li_53, li_57, li_59, li_60, li_61, li_62, li_63, li_80, li_81, li_91, li_93, li_97, li_100, li_122, li_200, li_255, li_256, li_257, li_258, li_259, li_260, li_300, li_314, li_400, li_580, li_999, li_5040, li_9999, li_65536, li_99999, li_7654321] <;> omega, fun a1 e1 => ?_⟩⟩
    rw [show (24 : Int32) + (-8) = 16 from rfl, show jn (n : Int) + 1 = jn ((n + 1 : Nat) : Int) from by (first | rfl | (simp (disch := omega) only [jn_add, jn_sub, jn_mul, jn_neg, li_0, li_1, li_2, li_3, li_4, li_5, li_6, li_7, li_8, li_9, li_10, li_11, li_12, li_13, li_14, li_15, li_16, li_17, li_18, li_20, li_24, li_29, li_30, li_31, li_32, li_37, li_39, li_40, li_42, li_43, li_45, li_46, li_47, li_48, li_53, li_57, li_59, li_60, li_61, li_62, li_63, li_80, li_81, li_91, li_93, li_97, li_100, li_122, li_200, li_255, li_256, li_257, li_258, li_259, li_260, li_300, li_314, li_400, li_580, li_999, li_5040, li_9999, li_65536, li_99999, li_7654321] <;> first | rfl | exact congrArg jn (by omega)) | exact congrArg jn (by omega))]
    unfold wp_X9_put_3
    refine ⟨fun q => absurd q (by decide), fun _ => ⟨by simp (disch := omega) only [jn_le, jn_lt, jn_eq, jn_in, jn_add, jn_sub, jn_mul, jn_neg, li_0, li_1, li_2, li_3, li_4, li_5, li_6, li_7, li_8, li_9, li_10, li_11, li_12, li_13, li_14, li_15, li_16, li_17, li_18, li_20, li_24, li_29, li_30, li_31, li_32, li_37, li_39, li_40, li_42, li_43, li_45, li_46, li_47, li_48, li_53, li_57, li_59, li_60, li_61, li_62, li_63, li_80, li_81, li_91, li_93, li_97, li_100, li_122, li_200, li_255, li_256, li_257, li_258, li_259, li_260, li_300, li_314, li_400, li_580, li_999, li_5040, li_9999, li_65536, li_99999, li_7654321] <;> omega, fun a2 e2 => ?_⟩⟩
    rw [show (16 : Int32) + (-8) = 8 from rfl, show jn ((n + 1 : Nat) : Int) + 1 = jn ((n + 2 : Nat) : Int) from by (first | rfl | (simp (disch := omega) only [jn_add, jn_sub, jn_mul, jn_neg, li_0, li_1, li_2, li_3, li_4, li_5, li_6, li_7, li_8, li_9, li_10, li_11, li_12, li_13, li_14, li_15, li_16, li_17, li_18, li_20, li_24, li_29, li_30, li_31, li_32, li_37, li_39, li_40, li_42, li_43, li_45, li_46, li_47, li_48, li_53, li_57, li_59, li_60, li_61, li_62, li_63, li_80, li_81, li_91, li_93, li_97, li_100, li_122, li_200, li_255, li_256, li_257, li_258, li_259, li_260, li_300, li_314, li_400, li_580, li_999, li_5040, li_9999, li_65536, li_99999, li_7654321] <;> first | rfl | exact congrArg jn (by omega)) | exact congrArg jn (by omega))]
    unfold wp_X9_put_3
    refine ⟨fun q => absurd q (by decide), fun _ => ⟨by simp (disch := omega) only [jn_le, jn_lt, jn_eq, jn_in, jn_add, jn_sub, jn_mul, jn_neg, li_0, li_1, li_2, li_3, li_4, li_5, li_6, li_7, li_8, li_9, li_10, li_11, li_12, li_13, li_14, li_15, li_16, li_17, li_18, li_20, li_24, li_29, li_30, li_31, li_32, li_37, li_39, li_40, li_42, li_43, li_45, li_46, li_47, li_48, li_53, li_57, li_59, li_60, li_61, li_62, li_63, li_80, li_81, li_91, li_93, li_97, li_100, li_122, li_200, li_255, li_256, li_257, li_258, li_259, li_260, li_300, li_314, li_400, li_580, li_999, li_5040, li_9999, li_65536, li_99999, li_7654321] <;> omega, fun a3 e3 => ?_⟩⟩
    rw [show (8 : Int32) + (-8) = 0 from rfl, show jn ((n + 2 : Nat) : Int) + 1 = jn ((n + 3 : Nat) : Int) from by (first | rfl | (simp (disch := omega) only [jn_add, jn_sub, jn_mul, jn_neg, li_0, li_1, li_2, li_3, li_4, li_5, li_6, li_7, li_8, li_9, li_10, li_11, li_12, li_13, li_14, li_15, li_16, li_17, li_18, li_20, li_24, li_29, li_30, li_31, li_32, li_37, li_39, li_40, li_42, li_43, li_45, li_46, li_47, li_48, li_53, li_57, li_59, li_60, li_61, li_62, li_63, li_80, li_81, li_91, li_93, li_97, li_100, li_122, li_200, li_255, li_256, li_257, li_258, li_259, li_260, li_300, li_314, li_400, li_580, li_999, li_5040, li_9999, li_65536, li_99999, li_7654321] <;> first | rfl | exact congrArg jn (by omega)) | exact congrArg jn (by omega))]
    unfold wp_X9_put_3
    refine ⟨fun q => absurd q (by decide), fun _ => ⟨by simp (disch := omega) only [jn_le, jn_lt, jn_eq, jn_in, jn_add, jn_sub, jn_mul, jn_neg, li_0, li_1, li_2, li_3, li_4, li_5, li_6, li_7, li_8, li_9, li_10, li_11, li_12, li_13, li_14, li_15, li_16, li_17, li_18, li_20, li_24, li_29, li_30, li_31, li_32, li_37, li_39, li_40, li_42, li_43, li_45, li_46, li_47, li_48, li_53, li_57, li_59, li_60, li_61, li_62, li_63, li_80, li_81, li_91, li_93, li_97, li_100, li_122, li_200, li_255, li_256, li_257, li_258, li_259, li_260, li_300, li_314, li_400, li_580, li_999, li_5040, li_9999, li_65536, li_99999, li_7654321] <;> omega, fun a4 e4 => ?_⟩⟩
    rw [show (0 : Int32) + (-8) = -8 from rfl, show jn ((n + 3 : Nat) : Int) + 1 = jn ((n + 4 : Nat) : Int) from by (first | rfl | (simp (disch := omega) only [jn_add, jn_sub, jn_mul, jn_neg, li_0, li_1, li_2, li_3, li_4, li_5, li_6, li_7, li_8, li_9, li_10, li_11, li_12, li_13, li_14, li_15, li_16, li_17, li_18, li_20, li_24, li_29, li_30, li_31, li_32, li_37, li_39, li_40, li_42, li_43, li_45, li_46, li_47, li_48, li_53, li_57, li_59, li_60, li_61, li_62, li_63, li_80, li_81, li_91, li_93, li_97, li_100, li_122, li_200, li_255, li_256, li_257, li_258, li_259, li_260, li_300, li_314, li_400, li_580, li_999, li_5040, li_9999, li_65536, li_99999, li_7654321] <;> first | rfl | exact congrArg jn (by omega)) | exact congrArg jn (by omega))]
    unfold wp_X9_put_3
    refine ⟨fun _ => h a4 (fun i hi => ?_), fun q => absurd (by decide) q⟩
    have b1 : vp_nar .byte ((v >>> ((24 : Int32) &&& 31)).toInt8.toInt32) = jn (byt v 24) := by1 24
    have b2 : vp_nar .byte ((v >>> ((16 : Int32) &&& 31)).toInt8.toInt32) = jn (byt v 16) := by1 16
    have b3 : vp_nar .byte ((v >>> ((8 : Int32) &&& 31)).toInt8.toInt32) = jn (byt v 8) := by1 8
    have b4 : vp_nar .byte ((v >>> ((0 : Int32) &&& 31)).toInt8.toInt32) = jn (byt v 0) := by1 0
    rw [jn_cln (by omega), b1] at e1
    rw [jn_cln (by omega), b2] at e2
    rw [jn_cln (by omega), b3] at e3
    rw [jn_cln (by omega), b4] at e4
    unfold put4
    rw [e4, e3, e2, e1]
    by_cases q0 : i = n + 3
    · rw [q0, upd_at, if_neg (by omega), if_neg (by omega), if_neg (by omega), if_pos rfl]
    · rw [upd_ne q0]
      by_cases q1 : i = n + 2
      · rw [q1, upd_at, if_neg (by omega), if_neg (by omega), if_pos rfl]
      · rw [upd_ne q1]
        by_cases q2 : i = n + 1
        · rw [q2, upd_at, if_neg (by omega), if_pos rfl]
        · rw [upd_ne q2]
          by_cases q3 : i = n
          · rw [q3, upd_at, if_pos rfl]
          · rw [upd_ne q3, if_neg q3, if_neg q2, if_neg q1, if_neg q0]; exact hB i (by omega)
  have := key (N - 5)
  rwa [show N - 5 + 5 = N by omega] at this
theorem rm_feed {v0 v1 v2 v3 v4 : Int32} {Q : Int32 → (Nat → Int32) → Int32 → Prop} (hN : 700 ≤ N) (hA : AOk a) (hM : MRel a tp td ru sg cl cs sd fc x ws ud im ifc ix imd) (h : ∀ tp td, MRel (F_feed a v0 v1 v2 v3 v4).2 tp td ru sg cl cs sd fc x ws ud im ifc ix imd → Q (F_feed a v0 v1 v2 v3 v4).1 tp td) : wp_X12_feed N Q v0 v1 v2 v3 v4 tp td := by
  obtain ⟨⟨t1, t2⟩, hr⟩ := hM
  have hn := hA.1
  unfold wp_X12_feed
  unfold F_feed at h
  subst t1
  rw [show jn (a_n a : Int) + 20 = jn ((a_n a + 20 : Nat) : Int) from by (first | rfl | (simp (disch := omega) only [jn_add, jn_sub, jn_mul, jn_neg, li_0, li_1, li_2, li_3, li_4, li_5, li_6, li_7, li_8, li_9, li_10, li_11, li_12, li_13, li_14, li_15, li_16, li_17, li_18, li_20, li_24, li_29, li_30, li_31, li_32, li_37, li_39, li_40, li_42, li_43, li_45, li_46, li_47, li_48, li_53, li_57, li_59, li_60, li_61, li_62, li_63, li_80, li_81, li_91, li_93, li_97, li_100, li_122, li_200, li_255, li_256, li_257, li_258, li_259, li_260, li_300, li_314, li_400, li_580, li_999, li_5040, li_9999, li_65536, li_99999, li_7654321] <;> first | rfl | exact congrArg jn (by omega)) | exact congrArg jn (by omega)), show (jn ((a_n a + 20 : Nat) : Int) ≤ 400) = (a_n a + 20 ≤ 400) from by rw [li_400, jn_le (by omega) (by omega)]; exact propext ⟨fun q => by omega, fun q => by omega⟩]
  refine ⟨fun z => ?_, fun z => ?_⟩
  · rw [if_pos z] at h
    refine wm_four (by omega) (by omega) t2 rfl (fun tp1 h1 => ?_)
    refine wm_four (by omega) (by omega) h1 rfl (fun tp2 h2 => ?_)
    refine wm_four (by omega) (by omega) h2 rfl (fun tp3 h3 => ?_)
    refine wm_four (by omega) (by omega) h3 rfl (fun tp4 h4 => ?_)
    refine wm_four (by omega) (by omega) h4 rfl (fun tp5 h5 => ?_)
    exact h tp5 (jn ((a_n a + 20 : Nat) : Int)) ⟨⟨rfl, h5⟩, hr⟩
  · rw [if_neg z] at h
    exact h tp _ ⟨⟨rfl, t2⟩, hr⟩
theorem rm_end {p : Int32} {Q : Int32 → Int32 → Prop} (hA : AOk a) (hM : MRel a tp td ru sg cl cs sd fc x ws ud im ifc ix imd) (h : ∀ td, MRel (F_end a p).2 tp td ru sg cl cs sd fc x ws ud im ifc ix imd → Q (F_end a p).1 td) : wp_X12_end N Q p td := by
  obtain ⟨⟨t1, t2⟩, hr⟩ := hM
  have hn := hA.1
  obtain ⟨y, rfl, hy⟩ := jn_of p
  unfold wp_X12_end wp_X12_end_12
  unfold F_end at h
  rw [jn_toInt hy] at h
  subst t1
  rw [li_0, jn_lt hy (by omega), jn_le hy (by omega)]
  refine ⟨fun z => ?_, fun z => ⟨fun z1 => ?_, fun z1 => ?_⟩⟩
  · rw [if_neg (by omega)] at h; exact h _ ⟨⟨rfl, t2⟩, hr⟩
  · rw [if_pos (by omega)] at h
    refine h _ ⟨⟨?_, fun i hi => t2 i ?_⟩, hr⟩
    · show jn y = jn ((y.toNat : Nat) : Int)
      exact congrArg jn (by omega)
    · have hi : i < y.toNat := hi
      omega
  · rw [if_neg (by omega)] at h; exact h _ ⟨⟨rfl, t2⟩, hr⟩
theorem rm_force {p : Int32} {Q : Int32 → Int32 → Prop} (hA : AOk a) (hM : MRel a tp td ru sg cl cs sd fc x ws ud im ifc ix imd) (h : ∀ fc, MRel (F_force a p).2 tp td ru sg cl cs sd fc x ws ud im ifc ix imd → Q (F_force a p).1 fc) : wp_X12_force N ru Q p fc := by
  have hM' := hM
  obtain ⟨m1, m2, m3, m4, m5, m6, m7, m8⟩ := hM
  have h6 := hA.2.2.1
  obtain ⟨y, rfl, hy⟩ := jn_of p
  unfold wp_X12_force wp_X12_force_16 wp_X12_isRule wp_X12_isRule_16 wp_X12_isRule_17
  unfold F_force at h
  rw [jn_toInt hy] at h
  rw [m2, show (jn y = -1) = (y = -1) from by rw [show (-1 : Int32) = jn (-1) from rfl, jn_eq hy (by omega)], show (jn y < 0) = (y < 0) from by rw [li_0, jn_lt hy (by omega)], jn_le (by omega) hy]
  have yes : (-1 ≤ y ∧ y < a_r a) → Q fc (jn y) := fun q => by
    rw [if_pos q] at h
    rw [m5]
    exact h _ ⟨m1, m2, m3, m4, rfl, m6, m7, m8⟩
  have no : ¬ (-1 ≤ y ∧ y < a_r a) → Q (-2) fc := fun q => by
    rw [if_neg q] at h
    exact h _ hM'
  refine ⟨fun z => yes (by omega), fun z => ⟨fun z1 => ⟨Or.inl rfl, fun _ => no (by omega), fun q => absurd rfl q⟩, fun z1 => ⟨fun z2 => ⟨Or.inl rfl, fun _ => no (by omega), fun q => absurd rfl q⟩, fun z2 => ⟨Or.inr rfl, fun q => absurd q (by decide), fun _ => yes (by omega)⟩⟩⟩⟩
theorem rm_seed {p : Int32} {Q : Int32 → Int32 → Prop} (hM : MRel a tp td ru sg cl cs sd fc x ws ud im ifc ix imd) (h : ∀ x, MRel (F_seed a p).2 tp td ru sg cl cs sd fc x ws ud im ifc ix imd → Q (F_seed a p).1 x) : wp_X12_seed N Q p x := by
  have hM' := hM
  obtain ⟨m1, m2, m3, m4, m5, m6, m7, m8⟩ := hM
  obtain ⟨y, rfl, hy⟩ := jn_of p
  unfold wp_X12_seed
  unfold F_seed at h
  rw [jn_toInt hy] at h
  rw [show (0 ≤ jn y) = (0 ≤ y) from by rw [li_0, jn_le (by omega) hy]]
  refine ⟨fun z => ?_, fun z => ?_⟩
  · rw [if_pos z] at h
    rw [m6]
    refine h _ ⟨m1, m2, m3, m4, m5, ?_, m7, m8⟩
    show jn y = jn ((y.toNat : Nat) : Int)
    exact congrArg jn (by omega)
  · rw [if_neg z] at h; exact h _ hM'
theorem mP_k {k k' pm : Nat} {P : Nat → gS} (h : mPs k pm P ws) (e : k' = k) : mPs k' pm P ws := by rw [e]; exact h
theorem mSd_7 {sd sd' : Nat → Int32} {s : sS} {g : gS} (hs : LOk (s_l s)) (hv : NOk (s_n s)) (h : mSd sd s) (hG : mG (l_k (s_l s)) sd' g) (hF : mF 7 sd sd') : mSd sd' (setG s g) := by
  have hk := hs.2.2.1
  obtain ⟨⟨q1, q2, q3, q4, q5, q6⟩, h2, h3⟩ := h
  refine ⟨⟨?_, ?_, ?_, fun c hc => ?_, fun c hc => ?_, fun c hc => ?_⟩, hG, mN_7 hv hF h3⟩
  · rw [hF 0 (by omega)]; exact q1
  · rw [hF 1 (by omega)]; exact q2
  · rw [hF 2 (by omega)]; exact q3
  · have hc : c < l_k (s_l s) := hc
    rw [hF _ (by omega)]; exact q4 c hc
  · have hc : c < l_k (s_l s) := hc
    rw [hF _ (by omega)]; exact q5 c hc
  · have hc : c < l_k (s_l s) := hc
    rw [hF _ (by omega)]; exact q6 c hc
/-- an act of the reference -/
theorem MRel_act {g : gS} {sd' ws' : Nat → Int32} (hA : AOk a) (hM : MRel a tp td ru sg cl cs sd fc x ws ud im ifc ix imd) (hG : mG (l_k (a_l a)) sd' g) (hF : mF (l_k (a_l a)) sd sd') (hP : mPs (l_k (a_l a)) (kpN (a_m a)) (kpP (a_m a) (a_p a) (a_g a)) ws') : MRel (act a g) tp td ru sg cl cs sd' fc x ws' (jn (kpN (a_m a) : Int)) im ifc ix imd := by
  obtain ⟨m1, m2, m3, m4, m5, m6, m7, m8⟩ := hM
  obtain ⟨s1, s2, s3, -⟩ := AOk_s hA
  exact ⟨m1, m2, m3, mSd_7 s1 s3 m4 hG (mF_7 s1.2.2.1 hF), m5, m6, ⟨rfl, hP⟩, m8⟩
theorem rm_turn {Q : Int32 → (Nat → Int64) → Int32 → (Nat → Int64) → (Nat → Int32) → (Nat → Int32) → Int32 → Prop} {st wd : Nat → Int64} {tp' : Int32} (hN : 700 ≤ N) (hA : AOk a) (hM : MRel a tp td ru sg cl cs sd fc x ws ud im ifc ix imd) (h : ∀ s t w sd ws ud, MRel (F_turn a).2 tp td ru sg cl cs sd fc x ws ud im ifc ix imd → Q (F_turn a).1 s t w sd ws ud) : wp_X12_turn N sg cl cs fc Q st tp' wd sd ws ud := by
  have hM' := hM
  obtain ⟨m1, m2, m3, ⟨m4, m4b, m4c⟩, m5, m6, ⟨m7, m7b⟩, m8⟩ := hM
  obtain ⟨s1, s2, s3, s4, s5, s6⟩ := AOk_s hA
  have hl1 := s1.1
  unfold wp_X12_turn wp_X12_turn_20 wp_X12_turn_41
  unfold F_turn at h
  refine wm_isLane hl1 m4.1 ⟨fun z => ?_, fun z => ⟨by unfold vp_in; decide, ?_⟩⟩
  · rw [li_0, jn_eq (by omega) (by omega)] at z
    rw [if_neg (by omega)] at h
    exact h _ _ _ _ _ _ hM'
  · rw [li_0, jn_eq (by omega) (by omega)] at z
    rw [show (10 : Int32).toNatClampNeg = 10 from rfl, m4b.1, show (jn (g_t (a_g a) : Int) = 999) = (g_t (a_g a) = 999) from by rw [li_999, jn_eq (by omega) (by omega)]; exact propext ⟨fun q => by omega, fun q => by omega⟩]
    refine ⟨fun y => ?_, fun y => ?_⟩
    · rw [if_neg (by omega)] at h
      exact h _ _ _ _ _ _ hM'
    · rw [if_pos (by omega)] at h
      refine wm_keepsAct hN hA.2.2.2.2.2.1 m7 m4b m7b (fun ws' hP => ?_)
      refine wm_passes (by omega) s1 s2 m4 m4b (by omega) (rNow_ok hA) (by rw [m5]; exact mR_now (by omega) hA m3) (fun s t w sd' a1 a2 => ?_)
      have hfin := h s t w sd' ws' _ (MRel_act hA hM' a1 a2 hP)
      rw [oC_nob s1.2.2.1]
      unfold tR at hfin
      refine ⟨fun q => ?_, fun q => ?_⟩
      · cases hw : tW (a_l a) (rNow a) (a_g a) with
        | none => exact absurd hw q
        | some c => rw [hw] at hfin; exact hfin
      · cases hw : tW (a_l a) (rNow a) (a_g a) with
        | none => rw [hw] at hfin; exact hfin
        | some c => exact absurd (by rw [hw]; intro z; cases z) q
theorem rm_leap {p q : Int32} {Q : Int32 → (Nat → Int32) → (Nat → Int32) → Int32 → Prop} (hN : 700 ≤ N) (hA : AOk a) (hM : MRel a tp td ru sg cl cs sd fc x ws ud im ifc ix imd) (h : ∀ sd ws ud, MRel (F_leap a p q).2 tp td ru sg cl cs sd fc x ws ud im ifc ix imd → Q (F_leap a p q).1 sd ws ud) : wp_X12_leap N Q p q sd ws ud := by
  have hM' := hM
  obtain ⟨m1, m2, m3, ⟨m4, m4b, m4c⟩, m5, m6, ⟨m7, m7b⟩, m8⟩ := hM
  obtain ⟨s1, s2, s3, s4, s5, s6⟩ := AOk_s hA
  have m4b : mG (l_k (a_l a)) sd (a_g a) := m4b
  have hk := s1.2.2.1
  obtain ⟨y, rfl, hy⟩ := jn_of q
  unfold wp_X12_leap wp_X12_leap_23
  unfold F_leap at h
  rw [jn_toInt hy] at h
  refine wm_canLeap (by omega) s1 s2 m4 m4b ?_
  cases e : asC (l_k (a_l a)) p with
  | none =>
    rw [e] at h
    exact ⟨fun _ => h _ _ _ hM', fun z => absurd rfl z⟩
  | some c =>
    rw [e] at h
    obtain ⟨hc, hp⟩ := asC_some e
    subst hp
    dsimp only at h ⊢
    have hcn := cn_iff s1 s2 hc
    have b5 : ov (a_l a) (a_g a) c ≤ min (l_s (a_l a)) (plc (a_l a) (a_g a) c) := ovr_le
    have hs6 := s1.2.1
    by_cases hq : cn (a_l a) (a_g a) c = true
    · rw [if_pos hq]
      have hq' := hcn.mp hq
      refine ⟨fun u => absurd u (by decide), fun _ => ?_⟩
      refine wm_overOf (by omega) s1 s2 m4 m4b rfl hc ?_
      refine wm_inC (b := 1) (c := (ov (a_l a) (a_g a) c : Int)) rfl rfl (jn_l (by omega)) hy (by decide) (by omega) (fun q1 => ⟨fun u => absurd u (by decide), fun _ => ?_⟩) (fun q1 => ⟨fun _ => ?_, fun u => absurd rfl u⟩)
      · rw [if_pos ⟨hq'.1, q1.1, q1.2⟩] at h
        obtain ⟨b, rfl⟩ : ∃ b : Nat, y = b := ⟨y.toNat, by omega⟩
        rw [Int.toNat_natCast] at h
        refine wm_keepsAct hN hA.2.2.2.2.2.1 m7 m4b m7b (fun ws' hP => ?_)
        refine wm_leaps (b := b) (by omega) s1 s2 m4 m4b rfl rfl hc (by omega) hq'.1 (fun sd' a1 a2 => ?_)
        refine wm_placeOf rfl (by omega) ?_
        have hpl : sd' (13 + 4 * c) = jn ((plc (a_l a) (a_g a) c - b : Nat) : Int) := by
          have hlt : plc (a_l a) (a_g a) c < l_k (a_l a) := iv_lt s2.1 hc
          have := a1.2.2.2.1 (plc (a_l a) (a_g a) c - b) (by omega)
          have hmv : mv (g_o (a_g a)) (plc (a_l a) (a_g a) c) b (plc (a_l a) (a_g a) c - b) = c := by
            unfold mv
            rw [if_pos rfl]; exact iv_at s2.1 hc
          rw [show g_o (g_t (a_g a), mv (g_o (a_g a)) (plc (a_l a) (a_g a) c) b, g_b (a_g a), un (g_r (a_g a)) c (g_r (a_g a) c - 1), un (g_p (a_g a)) c (min 999 (g_p (a_g a) c + b))) (plc (a_l a) (a_g a) c - b) = c from hmv] at this
          exact this
        rw [hpl]
        exact h _ _ _ (MRel_act hA hM' a1 a2 hP)
      · rw [if_neg (by omega)] at h; exact h _ _ _ hM'
    · rw [if_neg hq]
      refine ⟨fun _ => ?_, fun u => absurd rfl u⟩
      rw [if_neg (fun z => hq (hcn.mpr ⟨z.1, by omega⟩))] at h
      exact h _ _ _ hM'
theorem rm_stoop {p q : Int32} {Q : Int32 → (Nat → Int32) → (Nat → Int32) → Int32 → Prop} (hN : 700 ≤ N) (hA : AOk a) (hM : MRel a tp td ru sg cl cs sd fc x ws ud im ifc ix imd) (h : ∀ sd ws ud, MRel (F_stoop a p q).2 tp td ru sg cl cs sd fc x ws ud im ifc ix imd → Q (F_stoop a p q).1 sd ws ud) : wp_X12_stoop N Q p q sd ws ud := by
  have hM' := hM
  obtain ⟨m1, m2, m3, ⟨m4, m4b, m4c⟩, m5, m6, ⟨m7, m7b⟩, m8⟩ := hM
  obtain ⟨s1, s2, s3, s4, s5, s6⟩ := AOk_s hA
  have m4b : mG (l_k (a_l a)) sd (a_g a) := m4b
  have hk := s1.2.2.1
  obtain ⟨y, rfl, hy⟩ := jn_of q
  unfold wp_X12_stoop wp_X12_stoop_29
  unfold F_stoop at h
  rw [jn_toInt hy] at h
  refine wm_isCh hk m4.2.2.1 (fun hno => ⟨fun _ => ?_, fun q => absurd rfl q⟩) (fun c hc hs hx => ⟨fun q => absurd q (by decide), fun _ => ?_⟩)
  · rw [hno] at h; exact h _ _ _ hM'
  rw [hs] at h
  dsimp only at h
  subst hx
  have hb := s2.2.1 c
  refine wm_inC (b := 1) (c := 20) rfl rfl rfl hy (by decide) (by decide) (fun q1 => ⟨fun u => absurd u (by decide), fun _ => ?_⟩) (fun q1 => ⟨fun _ => ?_, fun u => absurd rfl u⟩)
  · refine wm_backOf rfl (by omega) ?_
    rw [m4b.2.1 c hc, jn_eq (by omega) hy]
    refine ⟨fun z => ?_, fun z => ?_⟩
    · rw [if_neg (by omega)] at h; exact h _ _ _ hM'
    · rw [if_pos (by omega)] at h
      obtain ⟨b, rfl⟩ : ∃ b : Nat, y = b := ⟨y.toNat, by omega⟩
      rw [Int.toNat_natCast] at h
      refine wm_keepsAct hN hA.2.2.2.2.2.1 m7 m4b m7b (fun ws' hP => ?_)
      refine wm_backOf rfl (by omega) ⟨by simp (disch := omega) only [jn_le, jn_lt, jn_eq, jn_in, jn_add, jn_sub, jn_mul, jn_neg, li_0, li_1, li_2, li_3, li_4, li_5, li_6, li_7, li_8, li_9, li_10, li_11, li_12, li_13, li_14, li_15, li_16, li_17, li_18, li_20, li_24, li_29, li_30, li_31, li_32, li_37, li_39, li_40, li_42, li_43, li_45, li_46, li_47, li_48, li_53, li_57, li_59, li_60, li_61, li_62, li_63, li_80, li_81, li_91, li_93, li_97, li_100, li_122, li_200, li_255, li_256, li_257, li_258, li_259, li_260, li_300, li_314, li_400, li_580, li_999, li_5040, li_9999, li_65536, li_99999, li_7654321] <;> omega, fun a7 e7 => ?_⟩
      rw [m4b.2.1 c hc]
      rw [show (11 : Int32) + (4 : Int32) * jn (c : Int) = jn ((11 + 4 * c : Nat) : Int) from by (first | rfl | (simp (disch := omega) only [jn_add, jn_sub, jn_mul, jn_neg, li_0, li_1, li_2, li_3, li_4, li_5, li_6, li_7, li_8, li_9, li_10, li_11, li_12, li_13, li_14, li_15, li_16, li_17, li_18, li_20, li_24, li_29, li_30, li_31, li_32, li_37, li_39, li_40, li_42, li_43, li_45, li_46, li_47, li_48, li_53, li_57, li_59, li_60, li_61, li_62, li_63, li_80, li_81, li_91, li_93, li_97, li_100, li_122, li_200, li_255, li_256, li_257, li_258, li_259, li_260, li_300, li_314, li_400, li_580, li_999, li_5040, li_9999, li_65536, li_99999, li_7654321] <;> first | rfl | exact congrArg jn (by omega)) | exact congrArg jn (by omega)), jn_cln (by omega)] at e7
      refine h a7 ws' _ (MRel_act hA hM' ⟨?_, fun d hd => ?_, fun d hd => ?_, fun d hd => ?_, fun d hd => ?_⟩ (by rw [e7]; exact mF_upd mF_refl (by omega)) hP)
      · rw [e7, upd_ne (by omega)]; exact m4b.1
      · show a7 (11 + 4 * d) = jn (un (g_b (a_g a)) c b d : Int)
        by_cases e : d = c
        · rw [e7, e, upd_at, un_at]
        · rw [e7, upd_ne (by omega), un_ne e]; exact m4b.2.1 d hd
      · rw [e7, upd_ne (by omega)]; exact m4b.2.2.1 d hd
      · rw [e7, upd_ne (by omega)]; exact m4b.2.2.2.1 d hd
      · rw [e7, upd_ne (by omega)]; exact m4b.2.2.2.2 d hd
  · rw [if_neg (by omega)] at h; exact h _ _ _ hM'
theorem rm_breath {p q : Int32} {Q : Int32 → (Nat → Int32) → (Nat → Int32) → Int32 → Prop} (hN : 700 ≤ N) (hA : AOk a) (hM : MRel a tp td ru sg cl cs sd fc x ws ud im ifc ix imd) (h : ∀ sd ws ud, MRel (F_breath a p q).2 tp td ru sg cl cs sd fc x ws ud im ifc ix imd → Q (F_breath a p q).1 sd ws ud) : wp_X12_breath N Q p q sd ws ud := by
  have hM' := hM
  obtain ⟨m1, m2, m3, ⟨m4, m4b, m4c⟩, m5, m6, ⟨m7, m7b⟩, m8⟩ := hM
  obtain ⟨s1, s2, s3, s4, s5, s6⟩ := AOk_s hA
  have m4b : mG (l_k (a_l a)) sd (a_g a) := m4b
  have hk := s1.2.2.1
  obtain ⟨y, rfl, hy⟩ := jn_of q
  unfold wp_X12_breath wp_X12_breath_20
  unfold F_breath at h
  rw [jn_toInt hy] at h
  refine wm_isCh hk m4.2.2.1 (fun hno => ⟨fun _ => ?_, fun q => absurd rfl q⟩) (fun c hc hs hx => ⟨fun q => absurd q (by decide), fun _ => ?_⟩)
  · rw [hno] at h; exact h _ _ _ hM'
  rw [hs] at h
  dsimp only at h
  subst hx
  refine wm_inC (b := 1) (c := 9) rfl rfl rfl hy (by decide) (by decide) (fun q1 => ⟨fun u => absurd u (by decide), fun _ => ?_⟩) (fun q1 => ⟨fun _ => ?_, fun u => absurd rfl u⟩)
  · rw [if_pos (by omega)] at h
    obtain ⟨b, rfl⟩ : ∃ b : Nat, y = b := ⟨y.toNat, by omega⟩
    rw [Int.toNat_natCast] at h
    refine wm_keepsAct hN hA.2.2.2.2.2.1 m7 m4b m7b (fun ws' hP => ?_)
    refine wm_breathes (b := b) s1 s2 m4b hc (by omega) rfl rfl (fun sd' a1 a2 => ?_)
    refine wm_breathOf rfl (by omega) ?_
    rw [a1.2.2.1 c hc, show g_r (gvB (a_g a) c b) c = min 60 (g_r (a_g a) c + b) from un_at]
    exact h _ _ _ (MRel_act hA hM' a1 a2 hP)
  · rw [if_neg (by omega)] at h; exact h _ _ _ hM'
theorem rm_front {p : Int32} {Q : Int32 → (Nat → Int32) → (Nat → Int32) → Int32 → Prop} (hN : 700 ≤ N) (hA : AOk a) (hM : MRel a tp td ru sg cl cs sd fc x ws ud im ifc ix imd) (h : ∀ sd ws ud, MRel (F_front a p).2 tp td ru sg cl cs sd fc x ws ud im ifc ix imd → Q (F_front a p).1 sd ws ud) : wp_X12_front N Q p sd ws ud := by
  have hM' := hM
  obtain ⟨m1, m2, m3, ⟨m4, m4b, m4c⟩, m5, m6, ⟨m7, m7b⟩, m8⟩ := hM
  obtain ⟨s1, s2, s3, s4, s5, s6⟩ := AOk_s hA
  have hk := s1.2.2.1
  unfold wp_X12_front wp_X12_front_16
  unfold F_front at h
  refine wm_isCh hk m4.2.2.1 (fun hno => ⟨fun _ => ?_, fun q => absurd rfl q⟩) (fun c hc hs hx => ⟨fun q => absurd q (by decide), fun _ => ?_⟩)
  · rw [hno] at h; exact h _ _ _ hM'
  rw [hs] at h
  dsimp only at h
  subst hx
  have hlt : plc (a_l a) (a_g a) c < l_k (a_l a) := iv_lt s2.1 hc
  refine wm_placeOf rfl (by omega) ?_
  rw [mG_plc s2 m4b hc, show (jn (plc (a_l a) (a_g a) c : Int) = 0) = (plc (a_l a) (a_g a) c = 0) from by rw [li_0, jn_eq (by omega) (by omega)]; exact propext ⟨fun q => by omega, fun q => by omega⟩]
  refine ⟨fun z => ?_, fun z => ?_⟩
  · rw [if_pos z] at h; exact h _ _ _ hM'
  · rw [if_neg z] at h
    refine wm_keepsAct hN hA.2.2.2.2.2.1 m7 m4b m7b (fun ws' hP => ?_)
    refine wm_placeOf rfl (by omega) ?_
    rw [mG_plc s2 m4b hc]
    refine wm_moves (b := plc (a_l a) (a_g a) c) (by omega) s1 s2 m4 m4b rfl rfl hc (Nat.le_refl _) (fun sd' a1 a2 => ?_)
    exact h _ _ _ (MRel_act hA hM' a1 a2 hP)
theorem rm_undo {Q : Int32 → (Nat → Int32) → Int32 → Prop} (hN : 700 ≤ N) (hA : AOk a) (hM : MRel a tp td ru sg cl cs sd fc x ws ud im ifc ix imd) (h : ∀ sd ud, MRel (F_undo a).2 tp td ru sg cl cs sd fc x ws ud im ifc ix imd → Q (F_undo a).1 sd ud) : wp_X12_undo N ws Q sd ud := by
  have hM' := hM
  obtain ⟨m1, m2, m3, m4, m5, m6, ⟨m7, m7b⟩, m8⟩ := hM
  obtain ⟨s1, s2, s3, s4, s5, s6⟩ := AOk_s hA
  have hk := s1.2.2.1
  unfold F_undo at h
  refine wm_undo (by omega) hA.2.2.2.2.2.1 m7 m7b hk (fun p e c hc => ?_) (fun z => ?_) (fun p e sd' a1 a2 => ?_)
  · have := (hA.2.2.2.2.2.2.1 p (by omega)).1.1.1 c hc
    omega
  · rw [if_pos z] at h; exact h _ _ hM'
  · rw [if_neg (by omega), show a_m a - 1 = p by omega] at h
    refine h sd' _ ⟨m1, m2, m3, mSd_7 s1 s3 m4 a1 a2, m5, m6, ⟨rfl, fun i hi => m7b i ?_⟩, m8⟩
    have hi : i < p := hi
    omega
theorem rm_note {p q : Int32} {Q : Int32 → (Nat → Int32) → Prop} (hA : AOk a) (hM : MRel a tp td ru sg cl cs sd fc x ws ud im ifc ix imd) (h : ∀ sd, MRel (F_note a p q).2 tp td ru sg cl cs sd fc x ws ud im ifc ix imd → Q (F_note a p q).1 sd) : wp_X12_note N Q p q sd := by
  have hM' := hM
  obtain ⟨m1, m2, m3, ⟨m4, m4b, m4c⟩, m5, m6, m7, m8⟩ := hM
  obtain ⟨s1, s2, s3, s4, s5, s6⟩ := AOk_s hA
  have hk := s1.2.2.1
  obtain ⟨y, rfl, hy⟩ := jn_of p
  unfold F_note at h
  rw [jn_toInt hy] at h
  have fr60 : ∀ sd', (∀ j, j < 60 → sd' j = sd j) → mL sd' (a_l a) ∧ mG (l_k (a_l a)) sd' (a_g a) := by
    intro sd' hF
    obtain ⟨q1, q2, q3, q4, q5, q6⟩ := m4
    refine ⟨⟨?_, ?_, ?_, fun c hc => ?_, fun c hc => ?_, fun c hc => ?_⟩, ?_, fun c hc => ?_, fun c hc => ?_, fun c hc => ?_, fun c hc => ?_⟩
    · rw [hF 0 (by omega)]; exact q1
    · rw [hF 1 (by omega)]; exact q2
    · rw [hF 2 (by omega)]; exact q3
    · rw [hF _ (by omega)]; exact q4 c hc
    · rw [hF _ (by omega)]; exact q5 c hc
    · rw [hF _ (by omega)]; exact q6 c hc
    · rw [hF _ (by omega)]; exact m4b.1
    · rw [hF _ (by omega)]; exact m4b.2.1 c hc
    · rw [hF _ (by omega)]; exact m4b.2.2.1 c hc
    · have := s2.1.1 c hc
      rw [hF _ (by omega)]; exact m4b.2.2.2.1 c hc
    · rw [hF _ (by omega)]; exact m4b.2.2.2.2 c hc
  refine wm_note (v := a_v a) s1 s3 m4 m4c (fun z sd' b1 b2 => ?_) (fun z hno => ?_) (fun n c hq sd' b1 b2 => ?_)
  · rw [if_pos z] at h
    obtain ⟨f1, f2⟩ := fr60 sd' (fun j hj => b1 j (by omega))
    exact h sd' ⟨m1, m2, m3, ⟨f1, f2, b2, fun i hi => absurd hi (Nat.not_lt_zero _), fun i hi => absurd hi (Nat.not_lt_zero _)⟩, m5, m6, m7, m8⟩
  · rw [if_neg z] at h
    cases e : asC (l_k (a_l a)) q with
    | none => rw [e] at h; exact h _ hM'
    | some c =>
      rw [e] at h
      dsimp only at h
      by_cases q1 : 0 ≤ y ∧ y ≤ 60 ∧ n_m (a_v a) < 10
      · exact absurd ⟨congrArg jn (by omega), by omega, e, q1.2.2⟩ (hno y.toNat c)
      · rw [if_neg q1] at h; exact h _ hM'
  · obtain ⟨q1, q2, q3, q4⟩ := hq
    rw [jn_eq hy (by omega)] at q1
    subst q1
    rw [if_neg (by rw [show (-1 : Int32) = jn (-1) from rfl, jn_eq (by omega) (by omega)]; omega), q3] at h
    dsimp only at h
    rw [if_pos (by omega), Int.toNat_natCast] at h
    obtain ⟨f1, f2⟩ := fr60 sd' b1
    exact h sd' ⟨m1, m2, m3, ⟨f1, f2, b2⟩, m5, m6, m7, m8⟩
end MCA
