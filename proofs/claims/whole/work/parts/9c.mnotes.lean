/-! notes: the reference -/
section MNO
variable {N : Nat} {l : lS} {g : gS} {v : nS} {r : rS} {sg cl cs sd kp fn : Nat → Int32} {fc tp : Int32} {st wd : Nat → Int64}
theorem wm_note {Q : Int32 → (Nat → Int32) → Prop} {x y : Int32} (hl : LOk l) (hv : NOk v) (hL : mL sd l) (hM : mN sd v) (h2 : x = -1 → ∀ sd', (∀ j, j ≠ 80 → sd' j = sd j) → sd' 80 = 0 → Q 0 sd') (h0 : x ≠ -1 → (∀ n c, ¬ qNo l v x y n c) → Q (-2) sd) (h1 : ∀ n c, qNo l v x y n c → ∀ sd', (∀ j, j < 60 → sd' j = sd j) → mN sd' (noA v n c) → Q (jn ((n_m v + 1 : Nat) : Int)) sd') : wp_X12_note N Q x y sd := by
  have hk := hl.2.2.1
  have hm := hv.1
  obtain ⟨a, rfl, ha⟩ := jn_of x
  unfold wp_X12_note wp_X12_note_47
  rw [show (80 : Int32).toNatClampNeg = 80 from rfl]
  refine ⟨fun z => ⟨by unfold vp_in; decide, fun a1 e1 => h2 z a1 (fun j hj => by rw [e1, upd_ne hj]) (by rw [e1, upd_at])⟩, fun z0 => ?_⟩
  have h0 := h0 z0
  have qb : ∀ n c, qNo l v (jn a) y n c → a = n ∧ n ≤ 60 ∧ asC (l_k l) y = some c ∧ n_m v < 10 := by
    rintro n c ⟨q1, q2, q3, q4⟩
    rw [jn_eq ha (by omega)] at q1
    exact ⟨q1, q2, q3, q4⟩
  refine wm_inC (b := 0) (c := 60) rfl rfl rfl ha (by decide) (by decide) (fun q1 => ⟨fun u => absurd u (by decide), fun _ => ?_⟩) (fun q1 => ⟨fun _ => h0 (fun n c hq => by have := qb n c hq; omega), fun u => absurd rfl u⟩)
  refine wm_isCh hk hL.2.2.1 (fun hno => ⟨fun _ => h0 (fun n c hq => by have := (qb n c hq).2.2.1; rw [hno] at this; cases this), fun q => absurd rfl q⟩) (fun c hc' hs hy => ⟨fun q => absurd q (by decide), fun _ => ?_⟩)
  refine ⟨by unfold vp_in; decide, ?_⟩
  rw [hM.1, li_10, jn_eq (by omega) (by omega)]
  refine ⟨fun z => h0 (fun n c hq => by have := qb n c hq; omega), fun z => ⟨by unfold vp_in; decide, fun x4 e4 => ?_⟩⟩
  rw [show (60 : Int32) + (2 : Int32) * jn (n_m v : Int) = jn ((60 + 2 * n_m v : Nat) : Int) from by (first | rfl | (simp (disch := omega) only [jn_add, jn_sub, jn_mul, jn_neg, li_0, li_1, li_2, li_3, li_4, li_5, li_6, li_7, li_8, li_9, li_10, li_11, li_12, li_13, li_14, li_15, li_16, li_17, li_18, li_20, li_24, li_29, li_30, li_31, li_32, li_37, li_39, li_40, li_42, li_43, li_45, li_46, li_47, li_48, li_53, li_57, li_59, li_60, li_61, li_62, li_63, li_80, li_81, li_91, li_93, li_97, li_100, li_122, li_200, li_255, li_256, li_257, li_258, li_259, li_260, li_300, li_314, li_400, li_580, li_999, li_5040, li_9999, li_65536, li_99999, li_7654321] <;> first | rfl | exact congrArg jn (by omega)) | exact congrArg jn (by omega))] at e4
  subst e4
  obtain ⟨n, rfl⟩ : ∃ n : Nat, a = n := ⟨a.toNat, by omega⟩
  subst hy
  rw [show jn ((60 + 2 * n_m v : Nat) : Int) + 1 = jn ((61 + 2 * n_m v : Nat) : Int) from by (first | rfl | (simp (disch := omega) only [jn_add, jn_sub, jn_mul, jn_neg, li_0, li_1, li_2, li_3, li_4, li_5, li_6, li_7, li_8, li_9, li_10, li_11, li_12, li_13, li_14, li_15, li_16, li_17, li_18, li_20, li_24, li_29, li_30, li_31, li_32, li_37, li_39, li_40, li_42, li_43, li_45, li_46, li_47, li_48, li_53, li_57, li_59, li_60, li_61, li_62, li_63, li_80, li_81, li_91, li_93, li_97, li_100, li_122, li_200, li_255, li_256, li_257, li_258, li_259, li_260, li_300, li_314, li_400, li_580, li_999, li_5040, li_9999, li_65536, li_99999, li_7654321] <;> first | rfl | exact congrArg jn (by omega)) | exact congrArg jn (by omega)), jn_cln (by omega), jn_cln (by omega)]
  refine ⟨by simp (disch := omega) only [jn_le, jn_lt, jn_eq, jn_in, jn_add, jn_sub, jn_mul, jn_neg, li_0, li_1, li_2, li_3, li_4, li_5, li_6, li_7, li_8, li_9, li_10, li_11, li_12, li_13, li_14, li_15, li_16, li_17, li_18, li_20, li_24, li_29, li_30, li_31, li_32, li_37, li_39, li_40, li_42, li_43, li_45, li_46, li_47, li_48, li_53, li_57, li_59, li_60, li_61, li_62, li_63, li_80, li_81, li_91, li_93, li_97, li_100, li_122, li_200, li_255, li_256, li_257, li_258, li_259, li_260, li_300, li_314, li_400, li_580, li_999, li_5040, li_9999, li_65536, li_99999, li_7654321] <;> omega, fun a5 e5 => ⟨by simp (disch := omega) only [jn_le, jn_lt, jn_eq, jn_in, jn_add, jn_sub, jn_mul, jn_neg, li_0, li_1, li_2, li_3, li_4, li_5, li_6, li_7, li_8, li_9, li_10, li_11, li_12, li_13, li_14, li_15, li_16, li_17, li_18, li_20, li_24, li_29, li_30, li_31, li_32, li_37, li_39, li_40, li_42, li_43, li_45, li_46, li_47, li_48, li_53, li_57, li_59, li_60, li_61, li_62, li_63, li_80, li_81, li_91, li_93, li_97, li_100, li_122, li_200, li_255, li_256, li_257, li_258, li_259, li_260, li_300, li_314, li_400, li_580, li_999, li_5040, li_9999, li_65536, li_99999, li_7654321] <;> omega, fun a6 e6 => ⟨by unfold vp_in; decide, by unfold vp_in; decide, fun a7 e7 => ⟨by unfold vp_in; decide, ?_⟩⟩⟩⟩
  have e80 : a6 80 = jn (n_m v : Int) := by rw [e6, upd_ne (by omega), e5, upd_ne (by omega)]; exact hM.1
  rw [e80, show jn (n_m v : Int) + 1 = jn ((n_m v + 1 : Nat) : Int) from by (first | rfl | (simp (disch := omega) only [jn_add, jn_sub, jn_mul, jn_neg, li_0, li_1, li_2, li_3, li_4, li_5, li_6, li_7, li_8, li_9, li_10, li_11, li_12, li_13, li_14, li_15, li_16, li_17, li_18, li_20, li_24, li_29, li_30, li_31, li_32, li_37, li_39, li_40, li_42, li_43, li_45, li_46, li_47, li_48, li_53, li_57, li_59, li_60, li_61, li_62, li_63, li_80, li_81, li_91, li_93, li_97, li_100, li_122, li_200, li_255, li_256, li_257, li_258, li_259, li_260, li_300, li_314, li_400, li_580, li_999, li_5040, li_9999, li_65536, li_99999, li_7654321] <;> first | rfl | exact congrArg jn (by omega)) | exact congrArg jn (by omega))] at e7
  rw [show a7 80 = jn ((n_m v + 1 : Nat) : Int) from by rw [e7, upd_at]]
  refine h1 n c ⟨rfl, by omega, hs, by omega⟩ a7 (fun j hj => ?_) ⟨?_, fun i hi => ?_, fun i hi => ?_⟩
  · rw [e7, upd_ne (by omega), e6, upd_ne (by omega), e5, upd_ne (by omega)]
  · rw [e7, upd_at]; rfl
  · have hi : i < n_m v + 1 := hi
    show a7 (60 + 2 * i) = jn (un (n_t v) (n_m v) n i : Int)
    rw [e7, upd_ne (by omega), e6, upd_ne (by omega), e5]
    by_cases e : i = n_m v
    · rw [e, upd_at, un_at]
    · rw [upd_ne (by omega), un_ne e]; exact hM.2.1 i (by omega)
  · have hi : i < n_m v + 1 := hi
    show a7 (61 + 2 * i) = jn (un (n_c v) (n_m v) c i : Int)
    rw [e7, upd_ne (by omega), e6]
    by_cases e : i = n_m v
    · rw [e, upd_at, un_at]
    · rw [upd_ne (by omega), un_ne e, e5, upd_ne (by omega)]; exact hM.2.2 i (by omega)
theorem wm_begins {Q : (Nat → Int32) → Prop} (hN : 10 ≤ N) (hl : LOk l) (hL : mL sd l) (h : ∀ sd', mG (l_k l) sd' (g00 l) → mF 7 sd sd' → Q sd') : wp_X12_begins N Q sd := by
  have hk := hl.2.2.1
  unfold wp_X12_begins
  refine ⟨by unfold vp_in; decide, fun a1 e1 => ?_⟩
  rw [show (10 : Int32).toNatClampNeg = 10 from rfl] at e1
  have key : ∀ (n i : Nat) (v1 : Int32) (sd' : Nat → Int32), v1 = jn (i : Int) → i ≤ 7 → sd' 10 = 0 → mF 7 sd sd' → (∀ c : Nat, c < i → sd' (11 + 4 * c) = sd (46 + c) ∧ sd' (12 + 4 * c) = sd (53 + c) ∧ sd' (13 + 4 * c) = jn (c : Int) ∧ sd' (14 + 4 * c) = 0) → 7 < n + i → wp_X12_begins_10 N Q n v1 sd' := by
    intro n
    induction n with
    | zero => intro i v1 sd' _ h1 _ _ _ h2; omega
    | succ n ih =>
      intro i v1 sd' e hi h10 hF hp hn
      subst e
      unfold wp_X12_begins_10
      refine ⟨fun z => ?_, fun z x2 e2 => ?_⟩
      · simp (disch := omega) only [jn_le, jn_lt, jn_eq, jn_in, jn_add, jn_sub, jn_mul, jn_neg, li_0, li_1, li_2, li_3, li_4, li_5, li_6, li_7, li_8, li_9, li_10, li_11, li_12, li_13, li_14, li_15, li_16, li_17, li_18, li_20, li_24, li_29, li_30, li_31, li_32, li_37, li_39, li_40, li_42, li_43, li_45, li_46, li_47, li_48, li_53, li_57, li_59, li_60, li_61, li_62, li_63, li_80, li_81, li_91, li_93, li_97, li_100, li_122, li_200, li_255, li_256, li_257, li_258, li_259, li_260, li_300, li_314, li_400, li_580, li_999, li_5040, li_9999, li_65536, li_99999, li_7654321] at z
        refine h sd' ⟨by rw [h10]; rfl, fun c hc => ?_, fun c hc => ?_, fun p hp' => ?_, fun c hc => ?_⟩ hF
        · rw [(hp c (by omega)).1]; exact hL.2.2.2.2.1 c hc
        · rw [(hp c (by omega)).2.1]; exact hL.2.2.2.2.2 c hc
        · exact (hp p (by omega)).2.2.1
        · rw [(hp c (by omega)).2.2.2]; rfl
      · simp (disch := omega) only [jn_le, jn_lt, jn_eq, jn_in, jn_add, jn_sub, jn_mul, jn_neg, li_0, li_1, li_2, li_3, li_4, li_5, li_6, li_7, li_8, li_9, li_10, li_11, li_12, li_13, li_14, li_15, li_16, li_17, li_18, li_20, li_24, li_29, li_30, li_31, li_32, li_37, li_39, li_40, li_42, li_43, li_45, li_46, li_47, li_48, li_53, li_57, li_59, li_60, li_61, li_62, li_63, li_80, li_81, li_91, li_93, li_97, li_100, li_122, li_200, li_255, li_256, li_257, li_258, li_259, li_260, li_300, li_314, li_400, li_580, li_999, li_5040, li_9999, li_65536, li_99999, li_7654321] at z
        rw [show (11 : Int32) + (4 : Int32) * jn (i : Int) = jn ((11 + 4 * i : Nat) : Int) from by (first | rfl | (simp (disch := omega) only [jn_add, jn_sub, jn_mul, jn_neg, li_0, li_1, li_2, li_3, li_4, li_5, li_6, li_7, li_8, li_9, li_10, li_11, li_12, li_13, li_14, li_15, li_16, li_17, li_18, li_20, li_24, li_29, li_30, li_31, li_32, li_37, li_39, li_40, li_42, li_43, li_45, li_46, li_47, li_48, li_53, li_57, li_59, li_60, li_61, li_62, li_63, li_80, li_81, li_91, li_93, li_97, li_100, li_122, li_200, li_255, li_256, li_257, li_258, li_259, li_260, li_300, li_314, li_400, li_580, li_999, li_5040, li_9999, li_65536, li_99999, li_7654321] <;> first | rfl | exact congrArg jn (by omega)) | exact congrArg jn (by omega))] at e2
        subst e2
        rw [show (46 : Int32) + jn (i : Int) = jn ((46 + i : Nat) : Int) from by (first | rfl | (simp (disch := omega) only [jn_add, jn_sub, jn_mul, jn_neg, li_0, li_1, li_2, li_3, li_4, li_5, li_6, li_7, li_8, li_9, li_10, li_11, li_12, li_13, li_14, li_15, li_16, li_17, li_18, li_20, li_24, li_29, li_30, li_31, li_32, li_37, li_39, li_40, li_42, li_43, li_45, li_46, li_47, li_48, li_53, li_57, li_59, li_60, li_61, li_62, li_63, li_80, li_81, li_91, li_93, li_97, li_100, li_122, li_200, li_255, li_256, li_257, li_258, li_259, li_260, li_300, li_314, li_400, li_580, li_999, li_5040, li_9999, li_65536, li_99999, li_7654321] <;> first | rfl | exact congrArg jn (by omega)) | exact congrArg jn (by omega)), show (53 : Int32) + jn (i : Int) = jn ((53 + i : Nat) : Int) from by (first | rfl | (simp (disch := omega) only [jn_add, jn_sub, jn_mul, jn_neg, li_0, li_1, li_2, li_3, li_4, li_5, li_6, li_7, li_8, li_9, li_10, li_11, li_12, li_13, li_14, li_15, li_16, li_17, li_18, li_20, li_24, li_29, li_30, li_31, li_32, li_37, li_39, li_40, li_42, li_43, li_45, li_46, li_47, li_48, li_53, li_57, li_59, li_60, li_61, li_62, li_63, li_80, li_81, li_91, li_93, li_97, li_100, li_122, li_200, li_255, li_256, li_257, li_258, li_259, li_260, li_300, li_314, li_400, li_580, li_999, li_5040, li_9999, li_65536, li_99999, li_7654321] <;> first | rfl | exact congrArg jn (by omega)) | exact congrArg jn (by omega)), show jn ((11 + 4 * i : Nat) : Int) + 1 = jn ((12 + 4 * i : Nat) : Int) from by (first | rfl | (simp (disch := omega) only [jn_add, jn_sub, jn_mul, jn_neg, li_0, li_1, li_2, li_3, li_4, li_5, li_6, li_7, li_8, li_9, li_10, li_11, li_12, li_13, li_14, li_15, li_16, li_17, li_18, li_20, li_24, li_29, li_30, li_31, li_32, li_37, li_39, li_40, li_42, li_43, li_45, li_46, li_47, li_48, li_53, li_57, li_59, li_60, li_61, li_62, li_63, li_80, li_81, li_91, li_93, li_97, li_100, li_122, li_200, li_255, li_256, li_257, li_258, li_259, li_260, li_300, li_314, li_400, li_580, li_999, li_5040, li_9999, li_65536, li_99999, li_7654321] <;> first | rfl | exact congrArg jn (by omega)) | exact congrArg jn (by omega)), show jn ((11 + 4 * i : Nat) : Int) + 2 = jn ((13 + 4 * i : Nat) : Int) from by (first | rfl | (simp (disch := omega) only [jn_add, jn_sub, jn_mul, jn_neg, li_0, li_1, li_2, li_3, li_4, li_5, li_6, li_7, li_8, li_9, li_10, li_11, li_12, li_13, li_14, li_15, li_16, li_17, li_18, li_20, li_24, li_29, li_30, li_31, li_32, li_37, li_39, li_40, li_42, li_43, li_45, li_46, li_47, li_48, li_53, li_57, li_59, li_60, li_61, li_62, li_63, li_80, li_81, li_91, li_93, li_97, li_100, li_122, li_200, li_255, li_256, li_257, li_258, li_259, li_260, li_300, li_314, li_400, li_580, li_999, li_5040, li_9999, li_65536, li_99999, li_7654321] <;> first | rfl | exact congrArg jn (by omega)) | exact congrArg jn (by omega)), show jn ((11 + 4 * i : Nat) : Int) + 3 = jn ((14 + 4 * i : Nat) : Int) from by (first | rfl | (simp (disch := omega) only [jn_add, jn_sub, jn_mul, jn_neg, li_0, li_1, li_2, li_3, li_4, li_5, li_6, li_7, li_8, li_9, li_10, li_11, li_12, li_13, li_14, li_15, li_16, li_17, li_18, li_20, li_24, li_29, li_30, li_31, li_32, li_37, li_39, li_40, li_42, li_43, li_45, li_46, li_47, li_48, li_53, li_57, li_59, li_60, li_61, li_62, li_63, li_80, li_81, li_91, li_93, li_97, li_100, li_122, li_200, li_255, li_256, li_257, li_258, li_259, li_260, li_300, li_314, li_400, li_580, li_999, li_5040, li_9999, li_65536, li_99999, li_7654321] <;> first | rfl | exact congrArg jn (by omega)) | exact congrArg jn (by omega))]
        rw [jn_cln (by omega), jn_cln (by omega), jn_cln (by omega), jn_cln (by omega), jn_cln (by omega), jn_cln (by omega)]
        refine ⟨by simp (disch := omega) only [jn_le, jn_lt, jn_eq, jn_in, jn_add, jn_sub, jn_mul, jn_neg, li_0, li_1, li_2, li_3, li_4, li_5, li_6, li_7, li_8, li_9, li_10, li_11, li_12, li_13, li_14, li_15, li_16, li_17, li_18, li_20, li_24, li_29, li_30, li_31, li_32, li_37, li_39, li_40, li_42, li_43, li_45, li_46, li_47, li_48, li_53, li_57, li_59, li_60, li_61, li_62, li_63, li_80, li_81, li_91, li_93, li_97, li_100, li_122, li_200, li_255, li_256, li_257, li_258, li_259, li_260, li_300, li_314, li_400, li_580, li_999, li_5040, li_9999, li_65536, li_99999, li_7654321] <;> omega, by simp (disch := omega) only [jn_le, jn_lt, jn_eq, jn_in, jn_add, jn_sub, jn_mul, jn_neg, li_0, li_1, li_2, li_3, li_4, li_5, li_6, li_7, li_8, li_9, li_10, li_11, li_12, li_13, li_14, li_15, li_16, li_17, li_18, li_20, li_24, li_29, li_30, li_31, li_32, li_37, li_39, li_40, li_42, li_43, li_45, li_46, li_47, li_48, li_53, li_57, li_59, li_60, li_61, li_62, li_63, li_80, li_81, li_91, li_93, li_97, li_100, li_122, li_200, li_255, li_256, li_257, li_258, li_259, li_260, li_300, li_314, li_400, li_580, li_999, li_5040, li_9999, li_65536, li_99999, li_7654321] <;> omega, fun a3 e3 => ⟨by simp (disch := omega) only [jn_le, jn_lt, jn_eq, jn_in, jn_add, jn_sub, jn_mul, jn_neg, li_0, li_1, li_2, li_3, li_4, li_5, li_6, li_7, li_8, li_9, li_10, li_11, li_12, li_13, li_14, li_15, li_16, li_17, li_18, li_20, li_24, li_29, li_30, li_31, li_32, li_37, li_39, li_40, li_42, li_43, li_45, li_46, li_47, li_48, li_53, li_57, li_59, li_60, li_61, li_62, li_63, li_80, li_81, li_91, li_93, li_97, li_100, li_122, li_200, li_255, li_256, li_257, li_258, li_259, li_260, li_300, li_314, li_400, li_580, li_999, li_5040, li_9999, li_65536, li_99999, li_7654321] <;> omega, by simp (disch := omega) only [jn_le, jn_lt, jn_eq, jn_in, jn_add, jn_sub, jn_mul, jn_neg, li_0, li_1, li_2, li_3, li_4, li_5, li_6, li_7, li_8, li_9, li_10, li_11, li_12, li_13, li_14, li_15, li_16, li_17, li_18, li_20, li_24, li_29, li_30, li_31, li_32, li_37, li_39, li_40, li_42, li_43, li_45, li_46, li_47, li_48, li_53, li_57, li_59, li_60, li_61, li_62, li_63, li_80, li_81, li_91, li_93, li_97, li_100, li_122, li_200, li_255, li_256, li_257, li_258, li_259, li_260, li_300, li_314, li_400, li_580, li_999, li_5040, li_9999, li_65536, li_99999, li_7654321] <;> omega, fun a4 e4 => ⟨by simp (disch := omega) only [jn_le, jn_lt, jn_eq, jn_in, jn_add, jn_sub, jn_mul, jn_neg, li_0, li_1, li_2, li_3, li_4, li_5, li_6, li_7, li_8, li_9, li_10, li_11, li_12, li_13, li_14, li_15, li_16, li_17, li_18, li_20, li_24, li_29, li_30, li_31, li_32, li_37, li_39, li_40, li_42, li_43, li_45, li_46, li_47, li_48, li_53, li_57, li_59, li_60, li_61, li_62, li_63, li_80, li_81, li_91, li_93, li_97, li_100, li_122, li_200, li_255, li_256, li_257, li_258, li_259, li_260, li_300, li_314, li_400, li_580, li_999, li_5040, li_9999, li_65536, li_99999, li_7654321] <;> omega, fun a5 e5 => ⟨by simp (disch := omega) only [jn_le, jn_lt, jn_eq, jn_in, jn_add, jn_sub, jn_mul, jn_neg, li_0, li_1, li_2, li_3, li_4, li_5, li_6, li_7, li_8, li_9, li_10, li_11, li_12, li_13, li_14, li_15, li_16, li_17, li_18, li_20, li_24, li_29, li_30, li_31, li_32, li_37, li_39, li_40, li_42, li_43, li_45, li_46, li_47, li_48, li_53, li_57, li_59, li_60, li_61, li_62, li_63, li_80, li_81, li_91, li_93, li_97, li_100, li_122, li_200, li_255, li_256, li_257, li_258, li_259, li_260, li_300, li_314, li_400, li_580, li_999, li_5040, li_9999, li_65536, li_99999, li_7654321] <;> omega, fun a6 e6 => ?_⟩⟩⟩⟩
        rw [e3, upd_ne (by omega)] at e4
        rw [← e3] at e4
        refine ih (i + 1) _ _ (by (first | rfl | (simp (disch := omega) only [jn_add, jn_sub, jn_mul, jn_neg, li_0, li_1, li_2, li_3, li_4, li_5, li_6, li_7, li_8, li_9, li_10, li_11, li_12, li_13, li_14, li_15, li_16, li_17, li_18, li_20, li_24, li_29, li_30, li_31, li_32, li_37, li_39, li_40, li_42, li_43, li_45, li_46, li_47, li_48, li_53, li_57, li_59, li_60, li_61, li_62, li_63, li_80, li_81, li_91, li_93, li_97, li_100, li_122, li_200, li_255, li_256, li_257, li_258, li_259, li_260, li_300, li_314, li_400, li_580, li_999, li_5040, li_9999, li_65536, li_99999, li_7654321] <;> first | rfl | exact congrArg jn (by omega)) | exact congrArg jn (by omega))) (by omega) ?_ ?_ (fun c hc => ?_) (by omega)
        · rw [e6, upd_ne (by omega), e5, upd_ne (by omega), e4, upd_ne (by omega), e3, upd_ne (by omega)]; exact h10
        · rw [e6, e5, e4, e3]
          exact mF_upd (mF_upd (mF_upd (mF_upd hF (by omega)) (by omega)) (by omega)) (by omega)
        · by_cases q : c = i
          · subst q
            refine ⟨?_, ?_, ?_, ?_⟩
            · rw [e6, upd_ne (by omega), e5, upd_ne (by omega), e4, upd_ne (by omega), e3, upd_at]; exact hF _ (by omega)
            · rw [e6, upd_ne (by omega), e5, upd_ne (by omega), e4, upd_at]; exact hF _ (by omega)
            · rw [e6, upd_ne (by omega), e5, upd_at]
            · rw [e6, upd_at]
          · have := hp c (by omega)
            refine ⟨?_, ?_, ?_, ?_⟩
            · rw [e6, upd_ne (by omega), e5, upd_ne (by omega), e4, upd_ne (by omega), e3, upd_ne (by omega)]; exact this.1
            · rw [e6, upd_ne (by omega), e5, upd_ne (by omega), e4, upd_ne (by omega), e3, upd_ne (by omega)]; exact this.2.1
            · rw [e6, upd_ne (by omega), e5, upd_ne (by omega), e4, upd_ne (by omega), e3, upd_ne (by omega)]; exact this.2.2.1
            · rw [e6, upd_ne (by omega), e5, upd_ne (by omega), e4, upd_ne (by omega), e3, upd_ne (by omega)]; exact this.2.2.2
  exact key N 0 _ a1 rfl (by omega) (by rw [e1, upd_at]) (by rw [e1]; exact mF_upd mF_refl (by omega)) (fun c hc => by omega) (by omega)
theorem wm_fi0 {Q : Int32 → Prop} (hN : 10 ≤ N) (hl : LOk l) (hg : GOk (l_k l) g) (hL : mL sd l) (hG : mG (l_k l) sd g) (h : Q (jn (fi l g))) : wp_X12_atPlace N sd Q (0 : Int32) := by
  refine wm_atPlace (p := 0) hN hl hg hL hG rfl (by omega) ?_
  unfold fi at h
  by_cases e : l_k l = 0
  · rw [if_neg (by omega)]; rw [if_pos e] at h; exact h
  · rw [if_pos (by omega)]; rw [if_neg e] at h; exact h
theorem wm_notesSo {n : Nat} {Q : Int32 → Prop} {x : Int32} (hN : 20 ≤ N) (hl : LOk l) (hg : GOk (l_k l) g) (hv : NOk v) (hL : mL sd l) (hG : mG (l_k l) sd g) (hM : mN sd v) (hn : n ≤ 60) (hx : x = jn (n : Int)) (h1 : alw (n_t v) (n_c v) n (fi l g) (n_m v) = true → Q 1) (h0 : alw (n_t v) (n_c v) n (fi l g) (n_m v) = false → Q 0) : wp_X12_areNotesSo N sd Q x := by
  have hk := hl.2.2.1
  obtain ⟨hv1, hv2, hv3⟩ := hv
  have hfb := fi_b hk hg
  subst hx
  unfold wp_X12_areNotesSo
  have key : ∀ (k i : Nat) (v2 : Int32), v2 = jn ((2 * i : Nat) : Int) → i ≤ n_m v → (∀ j, j < i → n_t v j = n → (n_c v j : Int) = fi l g) → n_m v < k + i → wp_X12_areNotesSo_2 N sd Q k (jn (n : Int)) v2 := by
    intro k
    induction k with
    | zero => intro i v2 _ h1 _ h2; omega
    | succ k ih =>
      intro i v2 e hi ha hk'
      subst e
      unfold wp_X12_areNotesSo_2 wp_X12_areNotesSo_49
      rw [show (80 : Int32).toNatClampNeg = 80 from rfl, hM.1, show (2 : Int32) * jn (n_m v : Int) = jn ((2 * n_m v : Nat) : Int) from by (first | rfl | (simp (disch := omega) only [jn_add, jn_sub, jn_mul, jn_neg, li_0, li_1, li_2, li_3, li_4, li_5, li_6, li_7, li_8, li_9, li_10, li_11, li_12, li_13, li_14, li_15, li_16, li_17, li_18, li_20, li_24, li_29, li_30, li_31, li_32, li_37, li_39, li_40, li_42, li_43, li_45, li_46, li_47, li_48, li_53, li_57, li_59, li_60, li_61, li_62, li_63, li_80, li_81, li_91, li_93, li_97, li_100, li_122, li_200, li_255, li_256, li_257, li_258, li_259, li_260, li_300, li_314, li_400, li_580, li_999, li_5040, li_9999, li_65536, li_99999, li_7654321] <;> first | rfl | exact congrArg jn (by omega)) | exact congrArg jn (by omega)), jn_le (by omega) (by omega)]
      refine ⟨by unfold vp_in; decide, fun z => ?_, fun z => ?_⟩
      · have e : i = n_m v := by omega
        subst e
        exact h1 (alw_iff.mpr ha)
      · have b1 := hv2 i
        have b2 := hv3 i
        rw [show (60 : Int32) + jn ((2 * i : Nat) : Int) = jn ((60 + 2 * i : Nat) : Int) from by (first | rfl | (simp (disch := omega) only [jn_add, jn_sub, jn_mul, jn_neg, li_0, li_1, li_2, li_3, li_4, li_5, li_6, li_7, li_8, li_9, li_10, li_11, li_12, li_13, li_14, li_15, li_16, li_17, li_18, li_20, li_24, li_29, li_30, li_31, li_32, li_37, li_39, li_40, li_42, li_43, li_45, li_46, li_47, li_48, li_53, li_57, li_59, li_60, li_61, li_62, li_63, li_80, li_81, li_91, li_93, li_97, li_100, li_122, li_200, li_255, li_256, li_257, li_258, li_259, li_260, li_300, li_314, li_400, li_580, li_999, li_5040, li_9999, li_65536, li_99999, li_7654321] <;> first | rfl | exact congrArg jn (by omega)) | exact congrArg jn (by omega)), show jn ((60 + 2 * i : Nat) : Int) + 1 = jn ((61 + 2 * i : Nat) : Int) from by (first | rfl | (simp (disch := omega) only [jn_add, jn_sub, jn_mul, jn_neg, li_0, li_1, li_2, li_3, li_4, li_5, li_6, li_7, li_8, li_9, li_10, li_11, li_12, li_13, li_14, li_15, li_16, li_17, li_18, li_20, li_24, li_29, li_30, li_31, li_32, li_37, li_39, li_40, li_42, li_43, li_45, li_46, li_47, li_48, li_53, li_57, li_59, li_60, li_61, li_62, li_63, li_80, li_81, li_91, li_93, li_97, li_100, li_122, li_200, li_255, li_256, li_257, li_258, li_259, li_260, li_300, li_314, li_400, li_580, li_999, li_5040, li_9999, li_65536, li_99999, li_7654321] <;> first | rfl | exact congrArg jn (by omega)) | exact congrArg jn (by omega)), jn_cln (by omega), jn_cln (by omega), hM.2.1 i (by omega), hM.2.2 i (by omega), jn_eq (by omega) (by omega)]
        have go : (n_t v i = n → (n_c v i : Int) = fi l g) → wp_X12_areNotesSo_2 N sd Q k (jn (n : Int)) (jn ((2 * i : Nat) : Int) + 2) := by
          intro q
          refine ih (i + 1) _ (by (first | rfl | (simp (disch := omega) only [jn_add, jn_sub, jn_mul, jn_neg, li_0, li_1, li_2, li_3, li_4, li_5, li_6, li_7, li_8, li_9, li_10, li_11, li_12, li_13, li_14, li_15, li_16, li_17, li_18, li_20, li_24, li_29, li_30, li_31, li_32, li_37, li_39, li_40, li_42, li_43, li_45, li_46, li_47, li_48, li_53, li_57, li_59, li_60, li_61, li_62, li_63, li_80, li_81, li_91, li_93, li_97, li_100, li_122, li_200, li_255, li_256, li_257, li_258, li_259, li_260, li_300, li_314, li_400, li_580, li_999, li_5040, li_9999, li_65536, li_99999, li_7654321] <;> first | rfl | exact congrArg jn (by omega)) | exact congrArg jn (by omega))) (by omega) (fun j hj => ?_) (by omega)
          by_cases e : j = i
          · subst e; exact q
          · exact ha j (by omega)
        refine ⟨by simp (disch := omega) only [jn_le, jn_lt, jn_eq, jn_in, jn_add, jn_sub, jn_mul, jn_neg, li_0, li_1, li_2, li_3, li_4, li_5, li_6, li_7, li_8, li_9, li_10, li_11, li_12, li_13, li_14, li_15, li_16, li_17, li_18, li_20, li_24, li_29, li_30, li_31, li_32, li_37, li_39, li_40, li_42, li_43, li_45, li_46, li_47, li_48, li_53, li_57, li_59, li_60, li_61, li_62, li_63, li_80, li_81, li_91, li_93, li_97, li_100, li_122, li_200, li_255, li_256, li_257, li_258, li_259, li_260, li_300, li_314, li_400, li_580, li_999, li_5040, li_9999, li_65536, li_99999, li_7654321] <;> omega, fun y => ?_, fun y => go (fun q => absurd (by omega) y)⟩
        refine wm_fi0 (by omega) hl hg hL hG ⟨by simp (disch := omega) only [jn_le, jn_lt, jn_eq, jn_in, jn_add, jn_sub, jn_mul, jn_neg, li_0, li_1, li_2, li_3, li_4, li_5, li_6, li_7, li_8, li_9, li_10, li_11, li_12, li_13, li_14, li_15, li_16, li_17, li_18, li_20, li_24, li_29, li_30, li_31, li_32, li_37, li_39, li_40, li_42, li_43, li_45, li_46, li_47, li_48, li_53, li_57, li_59, li_60, li_61, li_62, li_63, li_80, li_81, li_91, li_93, li_97, li_100, li_122, li_200, li_255, li_256, li_257, li_258, li_259, li_260, li_300, li_314, li_400, li_580, li_999, li_5040, li_9999, li_65536, li_99999, li_7654321] <;> omega, ?_⟩
        rw [jn_eq (by omega) (by omega)]
        refine ⟨fun w => go (fun _ => by omega), fun w => h0 ?_⟩
        cases hq : alw (n_t v) (n_c v) n (fi l g) (n_m v) with
        | false => rfl
        | true => exact absurd (alw_iff.mp hq i (by omega) (by omega)) (by omega)
  exact key N 0 _ rfl (by omega) (fun j hj => by omega) (by omega)
theorem wm_allSo {rr : Nat} {Q : Int32 → (Nat → Int64) → Int32 → (Nat → Int64) → (Nat → Int32) → (Nat → Int32) → Prop} {x : Int32} (hN : 500 ≤ N) (hl : LOk l) (hv : NOk v) (hL : mL sd l) (hG : mG (l_k l) sd (g00 l)) (hM : mN sd v) (hf : ROk r) (hR : mR N sg cl cs fc r) (hrr : rr < 7) (hx : x = jn (rr : Int))
    (h : ∀ s t w sd' fn', mF 7 sd sd' → (∀ n, n < 61 → fn' (61 * rr + n) = jn (ft l r n)) → (∀ j, ¬ (61 * rr ≤ j ∧ j < 61 * rr + 61) → fn' j = fn j) → Q (if nh l r v = true then 1 else 0) s t w sd' fn') : wp_X12_areAllSo N sg cl cs fc Q x st tp wd sd fn := by
  have hk := hl.2.2.1
  subst hx
  unfold wp_X12_areAllSo
  have key : ∀ (k i : Nat) (v2 v3 tp : Int32) (st wd : Nat → Int64) (sd' fn' : Nat → Int32), v3 = jn (i : Int) → i ≤ 61 → v2 = (if lead (nhf l r v) i = i then 1 else 0) → mG (l_k l) sd' (tI l r i (g00 l)) → mF 7 sd sd' → (∀ n, n < i → fn' (61 * rr + n) = jn (ft l r n)) → (∀ j, ¬ (61 * rr ≤ j ∧ j < 61 * rr + 61) → fn' j = fn j) → 61 < k + i → wp_X12_areAllSo_4 N sg cl cs fc Q k (jn (rr : Int)) v2 v3 st tp wd sd' fn' := by
    intro k
    induction k with
    | zero => intro i v2 v3 tp st wd sd' fn' _ h1 _ _ _ _ _ h2; omega
    | succ k ih =>
      intro i v2 v3 tp st wd sd' fn' e hi e2 hG' hF' h3 h4 hk'
      subst e
      have hgi := tI_ok (r := r) hl (n := i) (g00_ok hl)
      have hgs := tI_ok (r := r) hl (n := i + 1) (g00_ok hl)
      have hti := tI_t (l := l) (r := r) (n := i) (g := g00 l)
      have ht0 : g_t (g00 l) = 0 := rfl
      have hL' : mL sd' l := by
        obtain ⟨q1, q2, q3, q4, q5, q6⟩ := hL
        refine ⟨?_, ?_, ?_, fun c hc => ?_, fun c hc => ?_, fun c hc => ?_⟩
        · rw [hF' 0 (by omega)]; exact q1
        · rw [hF' 1 (by omega)]; exact q2
        · rw [hF' 2 (by omega)]; exact q3
        · rw [hF' _ (by omega)]; exact q4 c hc
        · rw [hF' _ (by omega)]; exact q5 c hc
        · rw [hF' _ (by omega)]; exact q6 c hc
      unfold wp_X12_areAllSo_4 wp_X12_areAllSo_31 wp_X12_areAllSo_32
      rw [show ((60 : Int32) < jn (i : Int)) = (60 < i) from by rw [li_60, jn_lt (by omega) (by omega)]; exact propext ⟨fun q => by omega, fun q => by omega⟩]
      refine ⟨fun z => ?_, fun z => ?_⟩
      · have e : i = 61 := by omega
        subst e
        have := h st tp wd sd' fn' hF' h3 h4
        unfold nh at this
        by_cases q : lead (nhf l r v) 61 = 61
        · rw [if_pos q] at e2
          rw [decide_eq_true q, if_pos rfl] at this
          subst e2
          exact ⟨Or.inr rfl, this⟩
        · rw [if_neg q] at e2
          rw [decide_eq_false q, if_neg (by decide)] at this
          subst e2
          exact ⟨Or.inl rfl, this⟩
      · refine wm_passes (by omega) hl hgi hL' hG' (by omega) hf hR (fun s t w sd2 a1 a2 => ?_)
        rw [← tI_add] at a1
        have hF2 : mF 7 sd sd2 := mF_trans hF' (mF_7 hk a2)
        have hL2 := mF_L hl a2 hL'
        have hM2 := mN_7 hv hF2 hM
        have nx : ∀ s0 : Int32, s0 = (if lead (nhf l r v) (i + 1) = i + 1 then 1 else 0) → wp_X12_atPlace N sd2 (fun r7 => vp_in (((61 : Int32) * jn (rr : Int)) + jn (i : Int)) 427 ∧ (∀ a8 : Nat → Int32, a8 = upd fn' (((61 : Int32) * jn (rr : Int)) + jn (i : Int)).toNatClampNeg r7 → wp_X12_areAllSo_4 N sg cl cs fc Q k (jn (rr : Int)) s0 (jn (i : Int) + 1) s t w sd2 a8)) (0 : Int32) := by
          intro s0 es
          rw [show (61 : Int32) * jn (rr : Int) + jn (i : Int) = jn ((61 * rr + i : Nat) : Int) from by (first | rfl | (simp (disch := omega) only [jn_add, jn_sub, jn_mul, jn_neg, li_0, li_1, li_2, li_3, li_4, li_5, li_6, li_7, li_8, li_9, li_10, li_11, li_12, li_13, li_14, li_15, li_16, li_17, li_18, li_20, li_24, li_29, li_30, li_31, li_32, li_37, li_39, li_40, li_42, li_43, li_45, li_46, li_47, li_48, li_53, li_57, li_59, li_60, li_61, li_62, li_63, li_80, li_81, li_91, li_93, li_97, li_100, li_122, li_200, li_255, li_256, li_257, li_258, li_259, li_260, li_300, li_314, li_400, li_580, li_999, li_5040, li_9999, li_65536, li_99999, li_7654321] <;> first | rfl | exact congrArg jn (by omega)) | exact congrArg jn (by omega)), jn_cln (by omega)]
          refine wm_fi0 (by omega) hl hgs hL2 a1 ⟨by simp (disch := omega) only [jn_le, jn_lt, jn_eq, jn_in, jn_add, jn_sub, jn_mul, jn_neg, li_0, li_1, li_2, li_3, li_4, li_5, li_6, li_7, li_8, li_9, li_10, li_11, li_12, li_13, li_14, li_15, li_16, li_17, li_18, li_20, li_24, li_29, li_30, li_31, li_32, li_37, li_39, li_40, li_42, li_43, li_45, li_46, li_47, li_48, li_53, li_57, li_59, li_60, li_61, li_62, li_63, li_80, li_81, li_91, li_93, li_97, li_100, li_122, li_200, li_255, li_256, li_257, li_258, li_259, li_260, li_300, li_314, li_400, li_580, li_999, li_5040, li_9999, li_65536, li_99999, li_7654321] <;> omega, fun a8 e8 => ?_⟩
          refine ih (i + 1) _ _ _ _ _ _ _ (by (first | rfl | (simp (disch := omega) only [jn_add, jn_sub, jn_mul, jn_neg, li_0, li_1, li_2, li_3, li_4, li_5, li_6, li_7, li_8, li_9, li_10, li_11, li_12, li_13, li_14, li_15, li_16, li_17, li_18, li_20, li_24, li_29, li_30, li_31, li_32, li_37, li_39, li_40, li_42, li_43, li_45, li_46, li_47, li_48, li_53, li_57, li_59, li_60, li_61, li_62, li_63, li_80, li_81, li_91, li_93, li_97, li_100, li_122, li_200, li_255, li_256, li_257, li_258, li_259, li_260, li_300, li_314, li_400, li_580, li_999, li_5040, li_9999, li_65536, li_99999, li_7654321] <;> first | rfl | exact congrArg jn (by omega)) | exact congrArg jn (by omega))) (by omega) es a1 hF2 (fun n hn => ?_) (fun j hj => ?_) (by omega)
          · by_cases e : n = i
            · rw [e8, e, upd_at]; rfl
            · rw [e8, upd_ne (by omega)]; exact h3 n (by omega)
          · rw [e8, upd_ne (by omega)]; exact h4 j hj
        have hls : lead (nhf l r v) (i + 1) = if lead (nhf l r v) i = i ∧ nhf l r v i = true then i + 1 else lead (nhf l r v) i := rfl
        have hll := lead_le (f := nhf l r v) (n := i)
        refine ⟨fun y => nx 0 ?_, fun y => ?_⟩
        · have q : ¬ lead (nhf l r v) i = i := fun q => by rw [e2, if_pos q] at y; exact absurd y (by decide)
          rw [if_neg (fun u => q u.1)] at hls
          rw [if_neg (by omega)]
        · have q : lead (nhf l r v) i = i := by
            by_cases q : lead (nhf l r v) i = i
            · exact q
            · rw [e2, if_neg q] at y; exact absurd rfl y
          refine wm_notesSo (by omega) hl hgs hv hL2 a1 hM2 (show i ≤ 60 by omega) rfl (fun hr => ⟨fun u => absurd u (by decide), fun _ => nx 1 ?_⟩) (fun hr => ⟨fun _ => nx 0 ?_, fun u => absurd rfl u⟩)
          · rw [if_pos ⟨q, hr⟩] at hls
            rw [if_pos hls]
          · rw [if_neg (fun u => by have h2 : nhf l r v i = false := hr; rw [h2] at u; cases u.2)] at hls
            rw [if_neg (by omega)]
  exact key N 0 _ _ _ _ _ _ _ rfl (by omega) rfl hG (fun _ _ => rfl) (fun n hn => by omega) (fun _ _ => rfl) (by omega)
/-- by which numbers in a cell all notes are so -/
theorem wm_canBe {cell : Nat} {P : Nat → Bool} {Q : Int32 → (Nat → Int64) → Int32 → (Nat → Int64) → (Nat → Int32) → (Nat → Int32) → (Nat → Int32) → Prop} {x : Int32} {lw : Nat → lS} (hN : 500 ≤ N) (hv : NOk v) (hM : mN sd v) (hf : ROk r) (hR : mR N sg cl cs fc r) (hce : 39 ≤ cell ∧ cell < 60) (hx : x = jn (cell : Int)) (hP : ∀ i, P i = nh (lw i) r v)
    (hlw : ∀ i, 1 ≤ i → i ≤ 20 → LOk (lw i) ∧ ∀ sd', (∀ j, j ≠ cell → ¬ (10 ≤ j ∧ j < 39) → sd' j = sd j) → sd' cell = jn (i : Int) → mL sd' (lw i))
    (h : ∀ s t w kp fn, Q (jn (bs (cbF P) 21 : Int)) s t w sd kp fn) : wp_X12_canBe N sg cl cs fc Q x st tp wd sd kp fn := by
  subst hx
  unfold wp_X12_canBe
  refine ⟨by simp (disch := omega) only [jn_le, jn_lt, jn_eq, jn_in, jn_add, jn_sub, jn_mul, jn_neg, li_0, li_1, li_2, li_3, li_4, li_5, li_6, li_7, li_8, li_9, li_10, li_11, li_12, li_13, li_14, li_15, li_16, li_17, li_18, li_20, li_24, li_29, li_30, li_31, li_32, li_37, li_39, li_40, li_42, li_43, li_45, li_46, li_47, li_48, li_53, li_57, li_59, li_60, li_61, li_62, li_63, li_80, li_81, li_91, li_93, li_97, li_100, li_122, li_200, li_255, li_256, li_257, li_258, li_259, li_260, li_300, li_314, li_400, li_580, li_999, li_5040, li_9999, li_65536, li_99999, li_7654321] <;> omega, fun x1 e1 => ?_⟩
  rw [jn_cln (by omega)] at e1
  refine wm_keeps (by omega) (fun kp' hkp => ?_)
  have key : ∀ (k i : Nat) (v3 v4 tp : Int32) (st wd : Nat → Int64) (sd' fn : Nat → Int32), v4 = jn (i : Int) → 1 ≤ i → i ≤ 21 → v3 = jn (bs (cbF P) i : Int) → (∀ j, j ≠ cell → ¬ (10 ≤ j ∧ j < 39) → sd' j = sd j) → 21 < k + i → wp_X12_canBe_16 N sg cl cs fc Q k (jn (cell : Int)) x1 v3 v4 st tp wd sd' kp' fn := by
    intro k
    induction k with
    | zero => intro i v3 v4 tp st wd sd' fn _ _ h1 _ _ h2; omega
    | succ k ih =>
      intro i v3 v4 tp st wd sd' fn e hi0 hi e3 hF hk'
      subst e
      unfold wp_X12_canBe_16 wp_X12_canBe_50
      rw [show ((20 : Int32) < jn (i : Int)) = (20 < i) from by rw [li_20, jn_lt (by omega) (by omega)]; exact propext ⟨fun q => by omega, fun q => by omega⟩, jn_cln (by omega)]
      refine ⟨fun z => ⟨by simp (disch := omega) only [jn_le, jn_lt, jn_eq, jn_in, jn_add, jn_sub, jn_mul, jn_neg, li_0, li_1, li_2, li_3, li_4, li_5, li_6, li_7, li_8, li_9, li_10, li_11, li_12, li_13, li_14, li_15, li_16, li_17, li_18, li_20, li_24, li_29, li_30, li_31, li_32, li_37, li_39, li_40, li_42, li_43, li_45, li_46, li_47, li_48, li_53, li_57, li_59, li_60, li_61, li_62, li_63, li_80, li_81, li_91, li_93, li_97, li_100, li_122, li_200, li_255, li_256, li_257, li_258, li_259, li_260, li_300, li_314, li_400, li_580, li_999, li_5040, li_9999, li_65536, li_99999, li_7654321] <;> omega, fun a3 e3' => ?_⟩, fun z => ⟨by simp (disch := omega) only [jn_le, jn_lt, jn_eq, jn_in, jn_add, jn_sub, jn_mul, jn_neg, li_0, li_1, li_2, li_3, li_4, li_5, li_6, li_7, li_8, li_9, li_10, li_11, li_12, li_13, li_14, li_15, li_16, li_17, li_18, li_20, li_24, li_29, li_30, li_31, li_32, li_37, li_39, li_40, li_42, li_43, li_45, li_46, li_47, li_48, li_53, li_57, li_59, li_60, li_61, li_62, li_63, li_80, li_81, li_91, li_93, li_97, li_100, li_122, li_200, li_255, li_256, li_257, li_258, li_259, li_260, li_300, li_314, li_400, li_580, li_999, li_5040, li_9999, li_65536, li_99999, li_7654321] <;> omega, fun a5 e5 => ?_⟩⟩
      · have e : i = 21 := by omega
        subst e
        rw [e3]
        refine wm_back (by omega) hkp (fun j hj => ?_) (h _ _ _ _ _)
        by_cases q : j = cell
        · rw [e3', q, upd_at]; exact e1
        · rw [e3', upd_ne q]; exact hF j q (by omega)
      · obtain ⟨hl, hml⟩ := hlw i hi0 (by omega)
        have hF5 : ∀ j, j ≠ cell → ¬ (10 ≤ j ∧ j < 39) → a5 j = sd j := fun j q1 q2 => by rw [e5, upd_ne q1]; exact hF j q1 q2
        have hL5 : mL a5 (lw i) := hml a5 hF5 (by rw [e5, upd_at])
        have hk := hl.2.2.1
        refine wm_begins (by omega) hl hL5 (fun sd6 a1 a2 => ?_)
        have hF6 : ∀ j, j ≠ cell → ¬ (10 ≤ j ∧ j < 39) → sd6 j = sd j := fun j q1 q2 => by rw [a2 j (by omega)]; exact hF5 j q1 q2
        have hL6 : mL sd6 (lw i) := hml sd6 hF6 (by rw [a2 cell (by omega), e5, upd_at])
        have hM6 : mN sd6 v := by
          have := hv.1
          refine ⟨by rw [hF6 80 (by omega) (by omega)]; exact hM.1, fun j hj => ?_, fun j hj => ?_⟩
          · rw [hF6 _ (by omega) (by omega)]; exact hM.2.1 j hj
          · rw [hF6 _ (by omega) (by omega)]; exact hM.2.2 j hj
        refine wm_allSo (rr := 0) hN hl hv hL6 a1 hM6 hf hR (by omega) rfl (fun s t w sd7 fn' b1 b2 b3 => ?_)
        have hF7 : ∀ j, j ≠ cell → ¬ (10 ≤ j ∧ j < 39) → sd7 j = sd j := fun j q1 q2 => by rw [b1 j (by omega)]; exact hF6 j q1 q2
        by_cases q : nh (lw i) r v = true
        · rw [if_pos q]
          refine ⟨fun u => absurd u (by decide), fun _ x13 e13 => ih (i + 1) _ _ _ _ _ _ _ (by (first | rfl | (simp (disch := omega) only [jn_add, jn_sub, jn_mul, jn_neg, li_0, li_1, li_2, li_3, li_4, li_5, li_6, li_7, li_8, li_9, li_10, li_11, li_12, li_13, li_14, li_15, li_16, li_17, li_18, li_20, li_24, li_29, li_30, li_31, li_32, li_37, li_39, li_40, li_42, li_43, li_45, li_46, li_47, li_48, li_53, li_57, li_59, li_60, li_61, li_62, li_63, li_80, li_81, li_91, li_93, li_97, li_100, li_122, li_200, li_255, li_256, li_257, li_258, li_259, li_260, li_300, li_314, li_400, li_580, li_999, li_5040, li_9999, li_65536, li_99999, li_7654321] <;> first | rfl | exact congrArg jn (by omega)) | exact congrArg jn (by omega))) (by omega) (by omega) ?_ hF7 (by omega)⟩
          rw [e13, e3]
          exact jn_orb hi0 (by omega) (by rw [hP]; exact q)
        · rw [if_neg q]
          refine ⟨fun _ => ih (i + 1) _ _ _ _ _ _ _ (by (first | rfl | (simp (disch := omega) only [jn_add, jn_sub, jn_mul, jn_neg, li_0, li_1, li_2, li_3, li_4, li_5, li_6, li_7, li_8, li_9, li_10, li_11, li_12, li_13, li_14, li_15, li_16, li_17, li_18, li_20, li_24, li_29, li_30, li_31, li_32, li_37, li_39, li_40, li_42, li_43, li_45, li_46, li_47, li_48, li_53, li_57, li_59, li_60, li_61, li_62, li_63, li_80, li_81, li_91, li_93, li_97, li_100, li_122, li_200, li_255, li_256, li_257, li_258, li_259, li_260, li_300, li_314, li_400, li_580, li_999, li_5040, li_9999, li_65536, li_99999, li_7654321] <;> first | rfl | exact congrArg jn (by omega)) | exact congrArg jn (by omega))) (by omega) (by omega) ?_ hF7 (by omega), fun u => absurd rfl u⟩
          rw [e3, bs_no (P := P)]
          rw [hP]
          cases hq : nh (lw i) r v with
          | false => rfl
          | true => exact absurd hq q
  exact key N 1 _ _ _ _ _ _ _ rfl (by omega) (by omega) (by rw [bs1]; rfl) (fun _ _ _ => rfl) (by omega)
theorem wm_leapsOf {Q : Int32 → (Nat → Int64) → Int32 → (Nat → Int64) → (Nat → Int32) → (Nat → Int32) → (Nat → Int32) → Prop} {x : Int32} (hN : 500 ≤ N) (hl : LOk l) (hv : NOk v) (hL : mL sd l) (hM : mN sd v) (hf : ROk r) (hR : mR N sg cl cs fc r)
    (h0 : asC (l_k l) x = none → ∀ s t w kp fn, Q (-1) s t w sd kp fn) (h1 : ∀ c, asC (l_k l) x = some c → ∀ s t w kp fn, Q (jn (bs (cbF (fun i => nh (lwL l c i) r v)) 21 : Int)) s t w sd kp fn) : wp_X12_leapsOf N sg cl cs fc Q x st tp wd sd kp fn := by
  have hk := hl.2.2.1
  unfold wp_X12_leapsOf wp_X12_leapsOf_20
  refine wm_isCh hk hL.2.2.1 (fun hno => ⟨fun _ => h0 hno _ _ _ _ _, fun q => absurd rfl q⟩) (fun c hc hs hx => ⟨fun q => absurd q (by decide), fun _ => ?_⟩)
  subst hx
  refine wm_canBe (cell := 39 + c) (lw := fun i => lwL l c i) hN hv hM hf hR (by omega) (by (first | rfl | (simp (disch := omega) only [jn_add, jn_sub, jn_mul, jn_neg, li_0, li_1, li_2, li_3, li_4, li_5, li_6, li_7, li_8, li_9, li_10, li_11, li_12, li_13, li_14, li_15, li_16, li_17, li_18, li_20, li_24, li_29, li_30, li_31, li_32, li_37, li_39, li_40, li_42, li_43, li_45, li_46, li_47, li_48, li_53, li_57, li_59, li_60, li_61, li_62, li_63, li_80, li_81, li_91, li_93, li_97, li_100, li_122, li_200, li_255, li_256, li_257, li_258, li_259, li_260, li_300, li_314, li_400, li_580, li_999, li_5040, li_9999, li_65536, li_99999, li_7654321] <;> first | rfl | exact congrArg jn (by omega)) | exact congrArg jn (by omega))) (fun _ => rfl) (fun i i1 i2 => ⟨lwL_ok hl i2, fun sd' b1 b2 => ?_⟩) (h1 c hs)
  obtain ⟨q1, q2, q3, q4, q5, q6⟩ := hL
  refine ⟨?_, ?_, ?_, fun d hd => ?_, fun d hd => ?_, fun d hd => ?_⟩
  · rw [b1 0 (by omega) (by omega)]; exact q1
  · rw [b1 1 (by omega) (by omega)]; exact q2
  · rw [b1 2 (by omega) (by omega)]; exact q3
  · show sd' (39 + d) = jn (un (l_l l) c i d : Int)
    by_cases e : d = c
    · rw [e, un_at]; exact b2
    · rw [un_ne e, b1 _ (by omega) (by omega)]; exact q4 d hd
  · have hd : d < l_k l := hd
    rw [b1 _ (by omega) (by omega)]; exact q5 d hd
  · have hd : d < l_k l := hd
    rw [b1 _ (by omega) (by omega)]; exact q6 d hd
theorem wm_backsOf {Q : Int32 → (Nat → Int64) → Int32 → (Nat → Int64) → (Nat → Int32) → (Nat → Int32) → (Nat → Int32) → Prop} {x : Int32} (hN : 500 ≤ N) (hl : LOk l) (hv : NOk v) (hL : mL sd l) (hM : mN sd v) (hf : ROk r) (hR : mR N sg cl cs fc r)
    (h0 : asC (l_k l) x = none → ∀ s t w kp fn, Q (-1) s t w sd kp fn) (h1 : ∀ c, asC (l_k l) x = some c → ∀ s t w kp fn, Q (jn (bs (cbF (fun i => nh (lwB l c i) r v)) 21 : Int)) s t w sd kp fn) : wp_X12_backsOf N sg cl cs fc Q x st tp wd sd kp fn := by
  have hk := hl.2.2.1
  unfold wp_X12_backsOf wp_X12_backsOf_20
  refine wm_isCh hk hL.2.2.1 (fun hno => ⟨fun _ => h0 hno _ _ _ _ _, fun q => absurd rfl q⟩) (fun c hc hs hx => ⟨fun q => absurd q (by decide), fun _ => ?_⟩)
  subst hx
  refine wm_canBe (cell := 46 + c) (lw := fun i => lwB l c i) hN hv hM hf hR (by omega) (by (first | rfl | (simp (disch := omega) only [jn_add, jn_sub, jn_mul, jn_neg, li_0, li_1, li_2, li_3, li_4, li_5, li_6, li_7, li_8, li_9, li_10, li_11, li_12, li_13, li_14, li_15, li_16, li_17, li_18, li_20, li_24, li_29, li_30, li_31, li_32, li_37, li_39, li_40, li_42, li_43, li_45, li_46, li_47, li_48, li_53, li_57, li_59, li_60, li_61, li_62, li_63, li_80, li_81, li_91, li_93, li_97, li_100, li_122, li_200, li_255, li_256, li_257, li_258, li_259, li_260, li_300, li_314, li_400, li_580, li_999, li_5040, li_9999, li_65536, li_99999, li_7654321] <;> first | rfl | exact congrArg jn (by omega)) | exact congrArg jn (by omega))) (fun _ => rfl) (fun i i1 i2 => ⟨lwB_ok hl i2, fun sd' b1 b2 => ?_⟩) (h1 c hs)
  obtain ⟨q1, q2, q3, q4, q5, q6⟩ := hL
  refine ⟨?_, ?_, ?_, fun d hd => ?_, fun d hd => ?_, fun d hd => ?_⟩
  · rw [b1 0 (by omega) (by omega)]; exact q1
  · rw [b1 1 (by omega) (by omega)]; exact q2
  · rw [b1 2 (by omega) (by omega)]; exact q3
  · have hd : d < l_k l := hd
    rw [b1 _ (by omega) (by omega)]; exact q4 d hd
  · show sd' (46 + d) = jn (un (l_b l) c i d : Int)
    by_cases e : d = c
    · rw [e, un_at]; exact b2
    · rw [un_ne e, b1 _ (by omega) (by omega)]; exact q5 d hd
  · have hd : d < l_k l := hd
    rw [b1 _ (by omega) (by omega)]; exact q6 d hd
end MNO
