/-! the reference's game: its cells -/
def mL (sd : Nat → Int32) (l : lS) : Prop := sd 0 = jn (l_t l) ∧ sd 1 = jn (l_s l) ∧ sd 2 = jn (l_k l) ∧ (∀ c, c < l_k l → sd (39 + c) = jn (l_l l c)) ∧ (∀ c, c < l_k l → sd (46 + c) = jn (l_b l c)) ∧ (∀ c, c < l_k l → sd (53 + c) = jn (l_r l c))
def mG (k : Nat) (sd : Nat → Int32) (g : gS) : Prop := sd 10 = jn (g_t g) ∧ (∀ c, c < k → sd (11 + 4 * c) = jn (g_b g c)) ∧ (∀ c, c < k → sd (12 + 4 * c) = jn (g_r g c)) ∧ (∀ p : Nat, p < k → sd (13 + 4 * g_o g p) = jn p) ∧ (∀ c, c < k → sd (14 + 4 * c) = jn (g_p g c))
theorem mG_plc {l : lS} {sd : Nat → Int32} {g : gS} (hg : GOk (l_k l) g) (h : mG (l_k l) sd g) {c : Nat} (hc : c < l_k l) : sd (13 + 4 * c) = jn (plc l g c) := by
  have := h.2.2.2.1 (plc l g c) (iv_lt hg.1 hc)
  rwa [show g_o g (plc l g c) = c from iv_at hg.1 hc] at this
/-- a child that is told -/
def asC (k : Nat) (x : Int32) : Option Nat := if 0 ≤ x.toInt ∧ x.toInt < k then some x.toInt.toNat else none
theorem asC_some {k c : Nat} {x : Int32} (h : asC k x = some c) : c < k ∧ x = jn c := by
  unfold asC at h
  split at h
  · rename_i q
    cases h
    refine ⟨by omega, ?_⟩
    rw [show ((x.toInt.toNat : Nat) : Int) = x.toInt by omega]
    exact (Int32.ofInt_toInt x).symm
  · cases h
theorem asC_none {k : Nat} {x : Int32} (h : asC k x = none) : x.toInt < 0 ∨ (k : Int) ≤ x.toInt := by
  unfold asC at h
  split at h
  · cases h
  · omega
theorem jn_cmpn {x y : Int64} : (lg_cmp x y < 0) = (x < y) := by
  unfold lg_cmp
  by_cases h : x > y
  · rw [if_pos h]
    refine propext ⟨fun q => absurd q (by decide), fun q => ?_⟩
    rw [GT.gt, Int64.lt_iff_toInt_lt] at h
    rw [Int64.lt_iff_toInt_lt] at q
    omega
  · rw [if_neg h]
    by_cases e : x = y
    · rw [if_pos e, e]; exact propext ⟨fun q => absurd q (by decide), fun q => absurd q Int64.lt_irrefl⟩
    · rw [if_neg e]
      refine propext ⟨fun _ => ?_, fun _ => by decide⟩
      rw [← Int64.toInt_inj] at e
      rw [GT.gt, Int64.lt_iff_toInt_lt] at h
      rw [Int64.lt_iff_toInt_lt]
      omega
theorem wm_in {N : Nat} {Q : Int32 → Prop} {x y z : Int64} {a b c : Int} (hx : x = jl a) (hy : y = jl b) (hz : z = jl c) (ra : -2147483648 ≤ a ∧ a < 2147483648) (rb : -2147483648 ≤ b ∧ b < 2147483648) (rc : -2147483648 ≤ c ∧ c < 2147483648) (h : Q (if b ≤ a ∧ a ≤ c then 1 else 0)) : wp_X12_in N Q x y z := by
  subst hx hy hz
  unfold wp_X12_in wp_X12_in_17 wp_X12_in_18
  rw [jn_cmpn, jn_cmp, jl_lt (by omega) (by omega), jl_lt (by omega) (by omega)]
  refine ⟨fun q => ⟨Or.inl rfl, ?_⟩, fun q => ⟨fun q2 => ⟨Or.inl rfl, ?_⟩, fun q2 => ⟨Or.inr rfl, ?_⟩⟩⟩
  · rwa [if_neg (by omega)] at h
  · rwa [if_neg (by omega)] at h
  · rwa [if_pos (by omega)] at h
theorem wm_isChild {N k : Nat} {sd : Nat → Int32} {Q : Int32 → Prop} {x : Int32} (hk : k ≤ 7) (h2 : sd 2 = jn k) (h : Q (if (asC k x).isSome = true then 1 else 0)) : wp_X12_isChild N sd Q x := by
  obtain ⟨a, rfl, ha⟩ := jn_of x
  have e : asC k (jn a) = if 0 ≤ a ∧ a < k then some a.toNat else none := by unfold asC; rw [jn_toInt ha]
  rw [e] at h
  unfold wp_X12_isChild wp_X12_isChild_18 wp_X12_isChild_19
  rw [show (2 : Int32).toNatClampNeg = 2 from rfl, h2, li_0, jn_lt (by omega) (by omega), jn_le (by omega) (by omega), ← li_0]
  refine ⟨fun q => ⟨Or.inl rfl, ?_⟩, fun q => ⟨by unfold vp_in; decide, fun q2 => ⟨Or.inl rfl, ?_⟩, fun q2 => ⟨Or.inr rfl, ?_⟩⟩⟩
  · rw [if_neg (show ¬ (0 ≤ a ∧ a < (k : Int)) by omega)] at h; exact h
  · rw [if_neg (show ¬ (0 ≤ a ∧ a < (k : Int)) by omega)] at h; exact h
  · rw [if_pos (show (0 ≤ a ∧ a < (k : Int)) by omega)] at h; exact h
theorem wm_isLane {N t : Nat} {sd : Nat → Int32} {Q : Int32 → Prop} (ht : t ≤ 1) (h0 : sd 0 = jn t) (h : Q (jn t)) : wp_X12_isLane N sd Q := by
  unfold wp_X12_isLane wp_X12_isLane_15
  rw [show (0 : Int32).toNatClampNeg = 0 from rfl, h0]
  have e : t = 0 ∨ t = 1 := by omega
  refine ⟨by unfold vp_in; decide, fun q => ⟨Or.inr rfl, ?_⟩, fun q => ⟨Or.inl rfl, ?_⟩⟩
  · rwa [q] at h
  · rcases e with e | e
    · subst e; exact h
    · subst e; exact absurd rfl q
theorem wm_backOf {N c : Nat} {sd : Nat → Int32} {Q : Int32 → Prop} {x : Int32} (hx : x = jn c) (hc : c < 7) (h : Q (sd (11 + 4 * c))) : wp_X12_backOf N sd Q x := by
  unfold wp_X12_backOf
  rw [show (11 : Int32) + (4 : Int32) * x = jn ((11 + 4 * c : Nat) : Int) by rw [hx]; exact by (first | rfl | (simp (disch := omega) only [jn_add, jn_sub, jn_mul, jn_neg, li_0, li_1, li_2, li_3, li_4, li_5, li_6, li_7, li_8, li_9, li_10, li_11, li_12, li_13, li_14, li_15, li_16, li_17, li_18, li_20, li_24, li_29, li_30, li_31, li_32, li_37, li_39, li_40, li_42, li_43, li_45, li_46, li_47, li_48, li_53, li_57, li_59, li_60, li_61, li_62, li_63, li_80, li_81, li_91, li_93, li_97, li_100, li_122, li_200, li_255, li_256, li_257, li_258, li_259, li_260, li_300, li_314, li_400, li_580, li_999, li_5040, li_9999, li_65536, li_99999, li_7654321] <;> first | rfl | exact congrArg jn (by omega)) | exact congrArg jn (by omega)), jn_cln (by omega)]
  exact ⟨by simp (disch := omega) only [jn_le, jn_lt, jn_eq, jn_in, jn_add, jn_sub, jn_mul, jn_neg, li_0, li_1, li_2, li_3, li_4, li_5, li_6, li_7, li_8, li_9, li_10, li_11, li_12, li_13, li_14, li_15, li_16, li_17, li_18, li_20, li_24, li_29, li_30, li_31, li_32, li_37, li_39, li_40, li_42, li_43, li_45, li_46, li_47, li_48, li_53, li_57, li_59, li_60, li_61, li_62, li_63, li_80, li_81, li_91, li_93, li_97, li_100, li_122, li_200, li_255, li_256, li_257, li_258, li_259, li_260, li_300, li_314, li_400, li_580, li_999, li_5040, li_9999, li_65536, li_99999, li_7654321] <;> omega, h⟩
theorem wm_breathOf {N c : Nat} {sd : Nat → Int32} {Q : Int32 → Prop} {x : Int32} (hx : x = jn c) (hc : c < 7) (h : Q (sd (12 + 4 * c))) : wp_X12_breathOf N sd Q x := by
  unfold wp_X12_breathOf
  rw [show (11 : Int32) + (4 : Int32) * x + (1 : Int32) = jn ((12 + 4 * c : Nat) : Int) by rw [hx]; exact by (first | rfl | (simp (disch := omega) only [jn_add, jn_sub, jn_mul, jn_neg, li_0, li_1, li_2, li_3, li_4, li_5, li_6, li_7, li_8, li_9, li_10, li_11, li_12, li_13, li_14, li_15, li_16, li_17, li_18, li_20, li_24, li_29, li_30, li_31, li_32, li_37, li_39, li_40, li_42, li_43, li_45, li_46, li_47, li_48, li_53, li_57, li_59, li_60, li_61, li_62, li_63, li_80, li_81, li_91, li_93, li_97, li_100, li_122, li_200, li_255, li_256, li_257, li_258, li_259, li_260, li_300, li_314, li_400, li_580, li_999, li_5040, li_9999, li_65536, li_99999, li_7654321] <;> first | rfl | exact congrArg jn (by omega)) | exact congrArg jn (by omega)), jn_cln (by omega)]
  exact ⟨by simp (disch := omega) only [jn_le, jn_lt, jn_eq, jn_in, jn_add, jn_sub, jn_mul, jn_neg, li_0, li_1, li_2, li_3, li_4, li_5, li_6, li_7, li_8, li_9, li_10, li_11, li_12, li_13, li_14, li_15, li_16, li_17, li_18, li_20, li_24, li_29, li_30, li_31, li_32, li_37, li_39, li_40, li_42, li_43, li_45, li_46, li_47, li_48, li_53, li_57, li_59, li_60, li_61, li_62, li_63, li_80, li_81, li_91, li_93, li_97, li_100, li_122, li_200, li_255, li_256, li_257, li_258, li_259, li_260, li_300, li_314, li_400, li_580, li_999, li_5040, li_9999, li_65536, li_99999, li_7654321] <;> omega, h⟩
theorem wm_placeOf {N c : Nat} {sd : Nat → Int32} {Q : Int32 → Prop} {x : Int32} (hx : x = jn c) (hc : c < 7) (h : Q (sd (13 + 4 * c))) : wp_X12_placeOf N sd Q x := by
  unfold wp_X12_placeOf
  rw [show (11 : Int32) + (4 : Int32) * x + (2 : Int32) = jn ((13 + 4 * c : Nat) : Int) by rw [hx]; exact by (first | rfl | (simp (disch := omega) only [jn_add, jn_sub, jn_mul, jn_neg, li_0, li_1, li_2, li_3, li_4, li_5, li_6, li_7, li_8, li_9, li_10, li_11, li_12, li_13, li_14, li_15, li_16, li_17, li_18, li_20, li_24, li_29, li_30, li_31, li_32, li_37, li_39, li_40, li_42, li_43, li_45, li_46, li_47, li_48, li_53, li_57, li_59, li_60, li_61, li_62, li_63, li_80, li_81, li_91, li_93, li_97, li_100, li_122, li_200, li_255, li_256, li_257, li_258, li_259, li_260, li_300, li_314, li_400, li_580, li_999, li_5040, li_9999, li_65536, li_99999, li_7654321] <;> first | rfl | exact congrArg jn (by omega)) | exact congrArg jn (by omega)), jn_cln (by omega)]
  exact ⟨by simp (disch := omega) only [jn_le, jn_lt, jn_eq, jn_in, jn_add, jn_sub, jn_mul, jn_neg, li_0, li_1, li_2, li_3, li_4, li_5, li_6, li_7, li_8, li_9, li_10, li_11, li_12, li_13, li_14, li_15, li_16, li_17, li_18, li_20, li_24, li_29, li_30, li_31, li_32, li_37, li_39, li_40, li_42, li_43, li_45, li_46, li_47, li_48, li_53, li_57, li_59, li_60, li_61, li_62, li_63, li_80, li_81, li_91, li_93, li_97, li_100, li_122, li_200, li_255, li_256, li_257, li_258, li_259, li_260, li_300, li_314, li_400, li_580, li_999, li_5040, li_9999, li_65536, li_99999, li_7654321] <;> omega, h⟩
theorem wm_leaptOf {N c : Nat} {sd : Nat → Int32} {Q : Int32 → Prop} {x : Int32} (hx : x = jn c) (hc : c < 7) (h : Q (sd (14 + 4 * c))) : wp_X12_leaptOf N sd Q x := by
  unfold wp_X12_leaptOf
  rw [show (11 : Int32) + (4 : Int32) * x + (3 : Int32) = jn ((14 + 4 * c : Nat) : Int) by rw [hx]; exact by (first | rfl | (simp (disch := omega) only [jn_add, jn_sub, jn_mul, jn_neg, li_0, li_1, li_2, li_3, li_4, li_5, li_6, li_7, li_8, li_9, li_10, li_11, li_12, li_13, li_14, li_15, li_16, li_17, li_18, li_20, li_24, li_29, li_30, li_31, li_32, li_37, li_39, li_40, li_42, li_43, li_45, li_46, li_47, li_48, li_53, li_57, li_59, li_60, li_61, li_62, li_63, li_80, li_81, li_91, li_93, li_97, li_100, li_122, li_200, li_255, li_256, li_257, li_258, li_259, li_260, li_300, li_314, li_400, li_580, li_999, li_5040, li_9999, li_65536, li_99999, li_7654321] <;> first | rfl | exact congrArg jn (by omega)) | exact congrArg jn (by omega)), jn_cln (by omega)]
  exact ⟨by simp (disch := omega) only [jn_le, jn_lt, jn_eq, jn_in, jn_add, jn_sub, jn_mul, jn_neg, li_0, li_1, li_2, li_3, li_4, li_5, li_6, li_7, li_8, li_9, li_10, li_11, li_12, li_13, li_14, li_15, li_16, li_17, li_18, li_20, li_24, li_29, li_30, li_31, li_32, li_37, li_39, li_40, li_42, li_43, li_45, li_46, li_47, li_48, li_53, li_57, li_59, li_60, li_61, li_62, li_63, li_80, li_81, li_91, li_93, li_97, li_100, li_122, li_200, li_255, li_256, li_257, li_258, li_259, li_260, li_300, li_314, li_400, li_580, li_999, li_5040, li_9999, li_65536, li_99999, li_7654321] <;> omega, h⟩
theorem wm_atPlace {N p : Nat} {l : lS} {g : gS} {sd : Nat → Int32} {Q : Int32 → Prop} {x : Int32} (hN : 10 ≤ N) (hl : LOk l) (hg : GOk (l_k l) g) (hL : mL sd l) (hG : mG (l_k l) sd g) (hx : x = jn p) (hp : p < 7) (h : Q (if p < l_k l then jn (g_o g p) else -1)) : wp_X12_atPlace N sd Q x := by
  subst hx
  have hk := hl.2.2.1
  have hP := hg.1
  have key : ∀ (n i : Nat) (v : Int32), v = jn i → i ≤ l_k l → (∀ c, c < i → plc l g c ≠ p) → l_k l < n + i → wp_X12_atPlace_2 N sd Q n (jn p) v := by
    intro n
    induction n with
    | zero => intro i v _ h1 _ h2; omega
    | succ n ih =>
      intro i v hv h1 ha h2
      unfold wp_X12_atPlace_2
      subst hv
      rw [show (2 : Int32).toNatClampNeg = 2 from rfl, hL.2.2.1]
      refine ⟨by unfold vp_in; decide, fun hc => ?_, fun hc => ?_⟩
      · simp (disch := omega) only [jn_le, jn_lt, jn_eq, jn_in, jn_add, jn_sub, jn_mul, jn_neg, li_0, li_1, li_2, li_3, li_4, li_5, li_6, li_7, li_8, li_9, li_10, li_11, li_12, li_13, li_14, li_15, li_16, li_17, li_18, li_20, li_24, li_29, li_30, li_31, li_32, li_37, li_39, li_40, li_42, li_43, li_45, li_46, li_47, li_48, li_53, li_57, li_59, li_60, li_61, li_62, li_63, li_80, li_81, li_91, li_93, li_97, li_100, li_122, li_200, li_255, li_256, li_257, li_258, li_259, li_260, li_300, li_314, li_400, li_580, li_999, li_5040, li_9999, li_65536, li_99999, li_7654321] at hc
        rw [if_neg] at h
        · exact h
        · intro q
          exact ha (g_o g p) (by have := hP.1 p q; omega) (iv_eq hP q)
      · simp (disch := omega) only [jn_le, jn_lt, jn_eq, jn_in, jn_add, jn_sub, jn_mul, jn_neg, li_0, li_1, li_2, li_3, li_4, li_5, li_6, li_7, li_8, li_9, li_10, li_11, li_12, li_13, li_14, li_15, li_16, li_17, li_18, li_20, li_24, li_29, li_30, li_31, li_32, li_37, li_39, li_40, li_42, li_43, li_45, li_46, li_47, li_48, li_53, li_57, li_59, li_60, li_61, li_62, li_63, li_80, li_81, li_91, li_93, li_97, li_100, li_122, li_200, li_255, li_256, li_257, li_258, li_259, li_260, li_300, li_314, li_400, li_580, li_999, li_5040, li_9999, li_65536, li_99999, li_7654321] at hc
        refine wm_placeOf rfl (by omega) ?_
        rw [mG_plc hg hG (by omega)]
        have hpi : plc l g i < l_k l := iv_lt hP (by omega)
        rw [jn_eq (by omega) (by omega)]
        refine ⟨fun he => ?_, fun he => ?_⟩
        · have e : plc l g i = p := by omega
          subst e
          rw [if_pos hpi, show g_o g (plc l g i) = i from iv_at hP (by omega)] at h
          exact h
        · refine ih (i + 1) _ (by (first | rfl | (simp (disch := omega) only [jn_add, jn_sub, jn_mul, jn_neg, li_0, li_1, li_2, li_3, li_4, li_5, li_6, li_7, li_8, li_9, li_10, li_11, li_12, li_13, li_14, li_15, li_16, li_17, li_18, li_20, li_24, li_29, li_30, li_31, li_32, li_37, li_39, li_40, li_42, li_43, li_45, li_46, li_47, li_48, li_53, li_57, li_59, li_60, li_61, li_62, li_63, li_80, li_81, li_91, li_93, li_97, li_100, li_122, li_200, li_255, li_256, li_257, li_258, li_259, li_260, li_300, li_314, li_400, li_580, li_999, li_5040, li_9999, li_65536, li_99999, li_7654321] <;> first | rfl | exact congrArg jn (by omega)) | exact congrArg jn (by omega))) (by omega) (fun c hc => ?_) (by omega)
          by_cases e : c = i
          · subst e; omega
          · exact ha c (by omega)
  exact key N 0 _ rfl (by omega) (fun c hc => by omega) (by omega)
theorem wm_overOf {N c : Nat} {l : lS} {g : gS} {sd : Nat → Int32} {Q : Int32 → Prop} {x : Int32} (hN : 10 ≤ N) (hl : LOk l) (hg : GOk (l_k l) g) (hL : mL sd l) (hG : mG (l_k l) sd g) (hx : x = jn c) (hc : c < l_k l) (h : Q (jn (ov l g c))) : wp_X12_overOf N sd Q x := by
  subst hx
  have hk := hl.2.2.1
  have hs := hl.2.1
  have hP := hg.1
  have hp : plc l g c < l_k l := iv_lt hP hc
  have hoc : g_o g (plc l g c) = c := iv_at hP hc
  have key : ∀ (n i : Nat) (v : Int32), v = jn i → i ≤ min (l_s l) (plc l g c) → (∀ j, j < i → g_b g (g_o g (plc l g c - 1 - j)) ≤ l_l l c) → l_s l < n + i → wp_X12_overOf_2 N sd Q n (jn c) v := by
    intro n
    induction n with
    | zero => intro i v _ h1 _ h2; omega
    | succ n ih =>
      intro i v hv h1 ha h2
      unfold wp_X12_overOf_2 wp_X12_overOf_56
      subst hv
      have fin : (i = min (l_s l) (plc l g c) ∨ ¬ g_b g (g_o g (plc l g c - 1 - i)) ≤ l_l l c) → Q (jn i) := by
        intro hs
        have : ov l g c = i := by
          unfold ov ovr
          rw [hoc]
          refine lead_is h1 (fun j hj => decide_eq_true (ha j hj)) ?_
          rcases hs with hs | hs
          · exact Or.inl hs
          · exact Or.inr (decide_eq_false hs)
        rwa [this] at h
      rw [show (1 : Int32).toNatClampNeg = 1 from rfl, hL.2.1]
      refine ⟨by unfold vp_in; decide, fun hd => ?_, fun hd => ?_⟩
      · simp (disch := omega) only [jn_le, jn_lt, jn_eq, jn_in, jn_add, jn_sub, jn_mul, jn_neg, li_0, li_1, li_2, li_3, li_4, li_5, li_6, li_7, li_8, li_9, li_10, li_11, li_12, li_13, li_14, li_15, li_16, li_17, li_18, li_20, li_24, li_29, li_30, li_31, li_32, li_37, li_39, li_40, li_42, li_43, li_45, li_46, li_47, li_48, li_53, li_57, li_59, li_60, li_61, li_62, li_63, li_80, li_81, li_91, li_93, li_97, li_100, li_122, li_200, li_255, li_256, li_257, li_258, li_259, li_260, li_300, li_314, li_400, li_580, li_999, li_5040, li_9999, li_65536, li_99999, li_7654321] at hd
        exact fin (Or.inl (by omega))
      · simp (disch := omega) only [jn_le, jn_lt, jn_eq, jn_in, jn_add, jn_sub, jn_mul, jn_neg, li_0, li_1, li_2, li_3, li_4, li_5, li_6, li_7, li_8, li_9, li_10, li_11, li_12, li_13, li_14, li_15, li_16, li_17, li_18, li_20, li_24, li_29, li_30, li_31, li_32, li_37, li_39, li_40, li_42, li_43, li_45, li_46, li_47, li_48, li_53, li_57, li_59, li_60, li_61, li_62, li_63, li_80, li_81, li_91, li_93, li_97, li_100, li_122, li_200, li_255, li_256, li_257, li_258, li_259, li_260, li_300, li_314, li_400, li_580, li_999, li_5040, li_9999, li_65536, li_99999, li_7654321] at hd
        refine wm_placeOf rfl (by omega) ?_
        rw [mG_plc hg hG hc, jn_le (by omega) (by omega)]
        refine ⟨fun he => fin (Or.inl (by omega)), fun he => ?_⟩
        refine wm_placeOf rfl (by omega) ?_
        rw [mG_plc hg hG hc]
        refine wm_atPlace hN hl hg hL hG (p := plc l g c - 1 - i) (by rw [li_1, jn_sub, jn_sub]; exact congrArg jn (by omega)) (by omega) ?_
        rw [if_pos (by omega)]
        have hq := hP.1 (plc l g c - 1 - i) (by omega)
        refine wm_backOf rfl (by omega) ?_
        have b1 := hg.2.1 (g_o g (plc l g c - 1 - i))
        have b2 := hl.2.2.2.2.2.1 c
        rw [hG.2.1 _ hq, show (39 : Int32) + jn c = jn ((39 + c : Nat) : Int) from by (first | rfl | (simp (disch := omega) only [jn_add, jn_sub, jn_mul, jn_neg, li_0, li_1, li_2, li_3, li_4, li_5, li_6, li_7, li_8, li_9, li_10, li_11, li_12, li_13, li_14, li_15, li_16, li_17, li_18, li_20, li_24, li_29, li_30, li_31, li_32, li_37, li_39, li_40, li_42, li_43, li_45, li_46, li_47, li_48, li_53, li_57, li_59, li_60, li_61, li_62, li_63, li_80, li_81, li_91, li_93, li_97, li_100, li_122, li_200, li_255, li_256, li_257, li_258, li_259, li_260, li_300, li_314, li_400, li_580, li_999, li_5040, li_9999, li_65536, li_99999, li_7654321] <;> first | rfl | exact congrArg jn (by omega)) | exact congrArg jn (by omega)), jn_cln (by omega), hL.2.2.2.1 c hc, jn_lt (by omega) (by omega)]
        refine ⟨by simp (disch := omega) only [jn_le, jn_lt, jn_eq, jn_in, jn_add, jn_sub, jn_mul, jn_neg, li_0, li_1, li_2, li_3, li_4, li_5, li_6, li_7, li_8, li_9, li_10, li_11, li_12, li_13, li_14, li_15, li_16, li_17, li_18, li_20, li_24, li_29, li_30, li_31, li_32, li_37, li_39, li_40, li_42, li_43, li_45, li_46, li_47, li_48, li_53, li_57, li_59, li_60, li_61, li_62, li_63, li_80, li_81, li_91, li_93, li_97, li_100, li_122, li_200, li_255, li_256, li_257, li_258, li_259, li_260, li_300, li_314, li_400, li_580, li_999, li_5040, li_9999, li_65536, li_99999, li_7654321] <;> omega, fun hf => fin (Or.inr (by omega)), fun hf => ?_⟩
        refine ih (i + 1) _ (by (first | rfl | (simp (disch := omega) only [jn_add, jn_sub, jn_mul, jn_neg, li_0, li_1, li_2, li_3, li_4, li_5, li_6, li_7, li_8, li_9, li_10, li_11, li_12, li_13, li_14, li_15, li_16, li_17, li_18, li_20, li_24, li_29, li_30, li_31, li_32, li_37, li_39, li_40, li_42, li_43, li_45, li_46, li_47, li_48, li_53, li_57, li_59, li_60, li_61, li_62, li_63, li_80, li_81, li_91, li_93, li_97, li_100, li_122, li_200, li_255, li_256, li_257, li_258, li_259, li_260, li_300, li_314, li_400, li_580, li_999, li_5040, li_9999, li_65536, li_99999, li_7654321] <;> first | rfl | exact congrArg jn (by omega)) | exact congrArg jn (by omega))) (by omega) (fun j hj => ?_) (by omega)
        by_cases e : j = i
        · subst e; omega
        · exact ha j (by omega)
  exact key N 0 _ rfl (by omega) (fun j hj => by omega) (by omega)
