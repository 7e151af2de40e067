/-! the reference's game: who can, sums, orders -/
theorem cn_iff {l : lS} {g : gS} {c : Nat} (hl : LOk l) (hg : GOk (l_k l) g) (hc : c < l_k l) : cn l g c = true ↔ 0 < g_r g c ∧ 0 < ov l g c := by
  have hP := hg.1
  have hp : plc l g c < l_k l := iv_lt hP hc
  have hoc : g_o g (plc l g c) = c := iv_at hP hc
  have h1 := hl.2.2.2.1 (by omega)
  unfold cn canb ov ovr
  rw [decide_eq_true_iff, hoc]
  constructor
  · rintro ⟨a, b, d⟩
    refine ⟨b, ?_⟩
    rcases Nat.eq_zero_or_pos (lead (fun i => decide (g_b g (g_o g (plc l g c - 1 - i)) ≤ l_l l c)) (min (l_s l) (plc l g c))) with e | e
    · have := lead_stop (f := fun i => decide (g_b g (g_o g (plc l g c - 1 - i)) ≤ l_l l c)) (n := min (l_s l) (plc l g c)) (by omega)
      rw [e] at this
      exact absurd d (of_decide_eq_false this)
    · exact e
  · rintro ⟨a, b⟩
    have h2 := lead_le (f := fun i => decide (g_b g (g_o g (plc l g c - 1 - i)) ≤ l_l l c)) (n := min (l_s l) (plc l g c))
    have h3 := of_decide_eq_true (lead_all b)
    exact ⟨by omega, a, h3⟩
theorem wm_canLeap {N : Nat} {l : lS} {g : gS} {sd : Nat → Int32} {Q : Int32 → Prop} {x : Int32} (hN : 10 ≤ N) (hl : LOk l) (hg : GOk (l_k l) g) (hL : mL sd l) (hG : mG (l_k l) sd g) (h : Q (match asC (l_k l) x with
    | some c => if cn l g c = true then 1 else 0
    | none => 0)) : wp_X12_canLeap N sd Q x := by
  have hk := hl.2.2.1
  unfold wp_X12_canLeap wp_X12_canLeap_28 wp_X12_canLeap_29
  refine wm_isChild hk hL.2.2.1 ?_
  cases e : asC (l_k l) x with
  | none =>
    rw [e] at h
    exact ⟨fun _ => ⟨Or.inl rfl, h⟩, fun q => absurd rfl q⟩
  | some c =>
    rw [e] at h
    obtain ⟨hc, rfl⟩ := asC_some e
    refine ⟨fun q => absurd q (show ¬ (1 : Int32) = 0 by decide), fun _ => ?_⟩
    have b1 := hg.2.2.1 c
    have no : ¬ (0 < g_r g c ∧ 0 < ov l g c) → Q 0 := by
      intro q
      dsimp only at h
      rwa [if_neg (fun z => q ((cn_iff hl hg hc).mp z))] at h
    refine wm_breathOf rfl (by omega) ?_
    rw [hG.2.2.1 c hc]
    refine ⟨fun q => ⟨Or.inl rfl, ?_⟩, fun q => ?_⟩
    · simp (disch := omega) only [jn_le, jn_lt, jn_eq, jn_in, jn_add, jn_sub, jn_mul, jn_neg, li_0, li_1, li_2, li_3, li_4, li_5, li_6, li_7, li_8, li_9, li_10, li_11, li_12, li_13, li_14, li_15, li_16, li_17, li_18, li_20, li_24, li_29, li_30, li_31, li_32, li_37, li_39, li_40, li_42, li_43, li_45, li_46, li_47, li_48, li_53, li_57, li_59, li_60, li_61, li_62, li_63, li_80, li_81, li_91, li_93, li_97, li_100, li_122, li_200, li_255, li_256, li_257, li_258, li_259, li_260, li_300, li_314, li_400, li_580, li_999, li_5040, li_9999, li_65536, li_99999, li_7654321] at q
      exact no (by omega)
    · simp (disch := omega) only [jn_le, jn_lt, jn_eq, jn_in, jn_add, jn_sub, jn_mul, jn_neg, li_0, li_1, li_2, li_3, li_4, li_5, li_6, li_7, li_8, li_9, li_10, li_11, li_12, li_13, li_14, li_15, li_16, li_17, li_18, li_20, li_24, li_29, li_30, li_31, li_32, li_37, li_39, li_40, li_42, li_43, li_45, li_46, li_47, li_48, li_53, li_57, li_59, li_60, li_61, li_62, li_63, li_80, li_81, li_91, li_93, li_97, li_100, li_122, li_200, li_255, li_256, li_257, li_258, li_259, li_260, li_300, li_314, li_400, li_580, li_999, li_5040, li_9999, li_65536, li_99999, li_7654321] at q
      refine wm_overOf hN hl hg hL hG rfl hc ?_
      have hs := hl.2.1
      have b2 : ov l g c ≤ min (l_s l) (plc l g c) := ovr_le
      refine ⟨fun q2 => ⟨Or.inl rfl, ?_⟩, fun q2 => ⟨Or.inr rfl, ?_⟩⟩
      · simp (disch := omega) only [jn_le, jn_lt, jn_eq, jn_in, jn_add, jn_sub, jn_mul, jn_neg, li_0, li_1, li_2, li_3, li_4, li_5, li_6, li_7, li_8, li_9, li_10, li_11, li_12, li_13, li_14, li_15, li_16, li_17, li_18, li_20, li_24, li_29, li_30, li_31, li_32, li_37, li_39, li_40, li_42, li_43, li_45, li_46, li_47, li_48, li_53, li_57, li_59, li_60, li_61, li_62, li_63, li_80, li_81, li_91, li_93, li_97, li_100, li_122, li_200, li_255, li_256, li_257, li_258, li_259, li_260, li_300, li_314, li_400, li_580, li_999, li_5040, li_9999, li_65536, li_99999, li_7654321] at q2
        exact no (by omega)
      · simp (disch := omega) only [jn_le, jn_lt, jn_eq, jn_in, jn_add, jn_sub, jn_mul, jn_neg, li_0, li_1, li_2, li_3, li_4, li_5, li_6, li_7, li_8, li_9, li_10, li_11, li_12, li_13, li_14, li_15, li_16, li_17, li_18, li_20, li_24, li_29, li_30, li_31, li_32, li_37, li_39, li_40, li_42, li_43, li_45, li_46, li_47, li_48, li_53, li_57, li_59, li_60, li_61, li_62, li_63, li_80, li_81, li_91, li_93, li_97, li_100, li_122, li_200, li_255, li_256, li_257, li_258, li_259, li_260, li_300, li_314, li_400, li_580, li_999, li_5040, li_9999, li_65536, li_99999, li_7654321] at q2
        dsimp only at h
        rwa [if_pos ((cn_iff hl hg hc).mpr ⟨by omega, by omega⟩)] at h
theorem asC_of {k c : Nat} (hk : k ≤ 7) (hc : c < k) : asC k (jn c) = some c := by
  unfold asC
  rw [jn_toInt (by omega), if_pos (by omega)]
  congr 1
theorem wm_canOnes {N : Nat} {l : lS} {g : gS} {sd : Nat → Int32} {Q : Int32 → Prop} (hN : 10 ≤ N) (hl : LOk l) (hg : GOk (l_k l) g) (hL : mL sd l) (hG : mG (l_k l) sd g) (h : Q (jn (bs (cn l g) (l_k l)))) : wp_X12_canOnes N sd Q := by
  have hk := hl.2.2.1
  have key : ∀ (n i : Nat) (s v : Int32), v = jn i → s = jn (bs (cn l g) i) → i ≤ l_k l → l_k l < n + i → wp_X12_canOnes_4 N sd Q n s v := by
    intro n
    induction n with
    | zero => intro i s v _ _ h1 h2; omega
    | succ n ih =>
      intro i s v hv hs h1 h2
      unfold wp_X12_canOnes_4
      subst hv hs
      rw [show (2 : Int32).toNatClampNeg = 2 from rfl, hL.2.2.1]
      refine ⟨by unfold vp_in; decide, fun hd => ?_, fun hd => ?_⟩
      · simp (disch := omega) only [jn_le, jn_lt, jn_eq, jn_in, jn_add, jn_sub, jn_mul, jn_neg, li_0, li_1, li_2, li_3, li_4, li_5, li_6, li_7, li_8, li_9, li_10, li_11, li_12, li_13, li_14, li_15, li_16, li_17, li_18, li_20, li_24, li_29, li_30, li_31, li_32, li_37, li_39, li_40, li_42, li_43, li_45, li_46, li_47, li_48, li_53, li_57, li_59, li_60, li_61, li_62, li_63, li_80, li_81, li_91, li_93, li_97, li_100, li_122, li_200, li_255, li_256, li_257, li_258, li_259, li_260, li_300, li_314, li_400, li_580, li_999, li_5040, li_9999, li_65536, li_99999, li_7654321] at hd
        have e : i = l_k l := by omega
        subst e; exact h
      · simp (disch := omega) only [jn_le, jn_lt, jn_eq, jn_in, jn_add, jn_sub, jn_mul, jn_neg, li_0, li_1, li_2, li_3, li_4, li_5, li_6, li_7, li_8, li_9, li_10, li_11, li_12, li_13, li_14, li_15, li_16, li_17, li_18, li_20, li_24, li_29, li_30, li_31, li_32, li_37, li_39, li_40, li_42, li_43, li_45, li_46, li_47, li_48, li_53, li_57, li_59, li_60, li_61, li_62, li_63, li_80, li_81, li_91, li_93, li_97, li_100, li_122, li_200, li_255, li_256, li_257, li_258, li_259, li_260, li_300, li_314, li_400, li_580, li_999, li_5040, li_9999, li_65536, li_99999, li_7654321] at hd
        refine wm_canLeap hN hl hg hL hG ?_
        rw [asC_of hk (by omega)]
        dsimp only
        unfold wp_X12_canOnes_30
        have e : bs (cn l g) (i + 1) = bs (cn l g) i ||| (if cn l g i = true then 2 ^ i else 0) := rfl
        cases hc : cn l g i with
        | true =>
          rw [hc] at e
          refine ⟨fun q => absurd q (by decide), fun _ x hx => ?_⟩
          refine ih (i + 1) _ _ (by (first | rfl | (simp (disch := omega) only [jn_add, jn_sub, jn_mul, jn_neg, li_0, li_1, li_2, li_3, li_4, li_5, li_6, li_7, li_8, li_9, li_10, li_11, li_12, li_13, li_14, li_15, li_16, li_17, li_18, li_20, li_24, li_29, li_30, li_31, li_32, li_37, li_39, li_40, li_42, li_43, li_45, li_46, li_47, li_48, li_53, li_57, li_59, li_60, li_61, li_62, li_63, li_80, li_81, li_91, li_93, li_97, li_100, li_122, li_200, li_255, li_256, li_257, li_258, li_259, li_260, li_300, li_314, li_400, li_580, li_999, li_5040, li_9999, li_65536, li_99999, li_7654321] <;> first | rfl | exact congrArg jn (by omega)) | exact congrArg jn (by omega))) ?_ (by omega) (by omega)
          rw [hx, jn_bit (by omega), jn_or, e, if_pos rfl]
        | false =>
          rw [hc] at e
          refine ⟨fun _ x hx => ?_, fun q => absurd rfl q⟩
          refine ih (i + 1) _ _ (by (first | rfl | (simp (disch := omega) only [jn_add, jn_sub, jn_mul, jn_neg, li_0, li_1, li_2, li_3, li_4, li_5, li_6, li_7, li_8, li_9, li_10, li_11, li_12, li_13, li_14, li_15, li_16, li_17, li_18, li_20, li_24, li_29, li_30, li_31, li_32, li_37, li_39, li_40, li_42, li_43, li_45, li_46, li_47, li_48, li_53, li_57, li_59, li_60, li_61, li_62, li_63, li_80, li_81, li_91, li_93, li_97, li_100, li_122, li_200, li_255, li_256, li_257, li_258, li_259, li_260, li_300, li_314, li_400, li_580, li_999, li_5040, li_9999, li_65536, li_99999, li_7654321] <;> first | rfl | exact congrArg jn (by omega)) | exact congrArg jn (by omega))) ?_ (by omega) (by omega)
          rw [hx, Int32.or_zero, e, if_neg (by decide), Nat.or_zero]
  exact key N 0 _ _ rfl rfl (by omega) (by omega)
theorem wm_leaptAll {N : Nat} {l : lS} {g : gS} {sd : Nat → Int32} {Q : Int32 → Prop} (hN : 10 ≤ N) (hl : LOk l) (hL : mL sd l) (hG : mG (l_k l) sd g) (h : Q (jn (sumTo (g_p g) (l_k l)))) : wp_X12_leaptAll N sd Q := by
  have hk := hl.2.2.1
  have key : ∀ (n i : Nat) (s v : Int32), v = jn i → s = jn (sumTo (g_p g) i) → i ≤ l_k l → l_k l < n + i → wp_X12_leaptAll_4 N sd Q n s v := by
    intro n
    induction n with
    | zero => intro i s v _ _ h1 h2; omega
    | succ n ih =>
      intro i s v hv hs h1 h2
      unfold wp_X12_leaptAll_4
      subst hv hs
      rw [show (2 : Int32).toNatClampNeg = 2 from rfl, hL.2.2.1]
      refine ⟨by unfold vp_in; decide, fun hd => ?_, fun hd => ?_⟩
      · simp (disch := omega) only [jn_le, jn_lt, jn_eq, jn_in, jn_add, jn_sub, jn_mul, jn_neg, li_0, li_1, li_2, li_3, li_4, li_5, li_6, li_7, li_8, li_9, li_10, li_11, li_12, li_13, li_14, li_15, li_16, li_17, li_18, li_20, li_24, li_29, li_30, li_31, li_32, li_37, li_39, li_40, li_42, li_43, li_45, li_46, li_47, li_48, li_53, li_57, li_59, li_60, li_61, li_62, li_63, li_80, li_81, li_91, li_93, li_97, li_100, li_122, li_200, li_255, li_256, li_257, li_258, li_259, li_260, li_300, li_314, li_400, li_580, li_999, li_5040, li_9999, li_65536, li_99999, li_7654321] at hd
        have e : i = l_k l := by omega
        subst e; exact h
      · simp (disch := omega) only [jn_le, jn_lt, jn_eq, jn_in, jn_add, jn_sub, jn_mul, jn_neg, li_0, li_1, li_2, li_3, li_4, li_5, li_6, li_7, li_8, li_9, li_10, li_11, li_12, li_13, li_14, li_15, li_16, li_17, li_18, li_20, li_24, li_29, li_30, li_31, li_32, li_37, li_39, li_40, li_42, li_43, li_45, li_46, li_47, li_48, li_53, li_57, li_59, li_60, li_61, li_62, li_63, li_80, li_81, li_91, li_93, li_97, li_100, li_122, li_200, li_255, li_256, li_257, li_258, li_259, li_260, li_300, li_314, li_400, li_580, li_999, li_5040, li_9999, li_65536, li_99999, li_7654321] at hd
        refine wm_leaptOf rfl (by omega) (fun x hx => ?_)
        refine ih (i + 1) _ _ (by (first | rfl | (simp (disch := omega) only [jn_add, jn_sub, jn_mul, jn_neg, li_0, li_1, li_2, li_3, li_4, li_5, li_6, li_7, li_8, li_9, li_10, li_11, li_12, li_13, li_14, li_15, li_16, li_17, li_18, li_20, li_24, li_29, li_30, li_31, li_32, li_37, li_39, li_40, li_42, li_43, li_45, li_46, li_47, li_48, li_53, li_57, li_59, li_60, li_61, li_62, li_63, li_80, li_81, li_91, li_93, li_97, li_100, li_122, li_200, li_255, li_256, li_257, li_258, li_259, li_260, li_300, li_314, li_400, li_580, li_999, li_5040, li_9999, li_65536, li_99999, li_7654321] <;> first | rfl | exact congrArg jn (by omega)) | exact congrArg jn (by omega))) ?_ (by omega) (by omega)
        rw [hx, hG.2.2.2.2 i (by omega), jn_add]; rfl
  exact key N 0 _ _ rfl rfl (by omega) (by omega)
theorem wm_orderNow {N : Nat} {l : lS} {g : gS} {sd : Nat → Int32} {Q : Int32 → Prop} (hN : 10 ≤ N) (hl : LOk l) (hg : GOk (l_k l) g) (hL : mL sd l) (hG : mG (l_k l) sd g) (h : Q (jn (onum (g_o g) (l_k l)))) : wp_X12_orderNow N sd Q := by
  have hk := hl.2.2.1
  have key : ∀ (n i : Nat) (s v : Int32), v = jn i → s = jn (onum (g_o g) i) → i ≤ l_k l → l_k l < n + i → wp_X12_orderNow_4 N sd Q n s v := by
    intro n
    induction n with
    | zero => intro i s v _ _ h1 h2; omega
    | succ n ih =>
      intro i s v hv hs h1 h2
      unfold wp_X12_orderNow_4
      subst hv hs
      rw [show (2 : Int32).toNatClampNeg = 2 from rfl, hL.2.2.1]
      refine ⟨by unfold vp_in; decide, fun hd => ?_, fun hd => ?_⟩
      · simp (disch := omega) only [jn_le, jn_lt, jn_eq, jn_in, jn_add, jn_sub, jn_mul, jn_neg, li_0, li_1, li_2, li_3, li_4, li_5, li_6, li_7, li_8, li_9, li_10, li_11, li_12, li_13, li_14, li_15, li_16, li_17, li_18, li_20, li_24, li_29, li_30, li_31, li_32, li_37, li_39, li_40, li_42, li_43, li_45, li_46, li_47, li_48, li_53, li_57, li_59, li_60, li_61, li_62, li_63, li_80, li_81, li_91, li_93, li_97, li_100, li_122, li_200, li_255, li_256, li_257, li_258, li_259, li_260, li_300, li_314, li_400, li_580, li_999, li_5040, li_9999, li_65536, li_99999, li_7654321] at hd
        have e : i = l_k l := by omega
        subst e; exact h
      · simp (disch := omega) only [jn_le, jn_lt, jn_eq, jn_in, jn_add, jn_sub, jn_mul, jn_neg, li_0, li_1, li_2, li_3, li_4, li_5, li_6, li_7, li_8, li_9, li_10, li_11, li_12, li_13, li_14, li_15, li_16, li_17, li_18, li_20, li_24, li_29, li_30, li_31, li_32, li_37, li_39, li_40, li_42, li_43, li_45, li_46, li_47, li_48, li_53, li_57, li_59, li_60, li_61, li_62, li_63, li_80, li_81, li_91, li_93, li_97, li_100, li_122, li_200, li_255, li_256, li_257, li_258, li_259, li_260, li_300, li_314, li_400, li_580, li_999, li_5040, li_9999, li_65536, li_99999, li_7654321] at hd
        refine wm_atPlace hN hl hg hL hG rfl (by omega) (fun x hx => ?_)
        refine ih (i + 1) _ _ (by (first | rfl | (simp (disch := omega) only [jn_add, jn_sub, jn_mul, jn_neg, li_0, li_1, li_2, li_3, li_4, li_5, li_6, li_7, li_8, li_9, li_10, li_11, li_12, li_13, li_14, li_15, li_16, li_17, li_18, li_20, li_24, li_29, li_30, li_31, li_32, li_37, li_39, li_40, li_42, li_43, li_45, li_46, li_47, li_48, li_53, li_57, li_59, li_60, li_61, li_62, li_63, li_80, li_81, li_91, li_93, li_97, li_100, li_122, li_200, li_255, li_256, li_257, li_258, li_259, li_260, li_300, li_314, li_400, li_580, li_999, li_5040, li_9999, li_65536, li_99999, li_7654321] <;> first | rfl | exact congrArg jn (by omega)) | exact congrArg jn (by omega))) ?_ (by omega) (by omega)
        rw [if_pos (by omega)] at hx
        rw [hx, onum]
        exact by (first | rfl | (simp (disch := omega) only [jn_add, jn_sub, jn_mul, jn_neg, li_0, li_1, li_2, li_3, li_4, li_5, li_6, li_7, li_8, li_9, li_10, li_11, li_12, li_13, li_14, li_15, li_16, li_17, li_18, li_20, li_24, li_29, li_30, li_31, li_32, li_37, li_39, li_40, li_42, li_43, li_45, li_46, li_47, li_48, li_53, li_57, li_59, li_60, li_61, li_62, li_63, li_80, li_81, li_91, li_93, li_97, li_100, li_122, li_200, li_255, li_256, li_257, li_258, li_259, li_260, li_300, li_314, li_400, li_580, li_999, li_5040, li_9999, li_65536, li_99999, li_7654321] <;> first | rfl | exact congrArg jn (by omega)) | exact congrArg jn (by omega))
  exact key N 0 _ _ rfl rfl (by omega) (by omega)
theorem wm_bits {N n : Nat} {Q : Int32 → Prop} {x : Int32} (hN : 10 ≤ N) (hn : n < 128) (hx : x = jn n) (h : Q (jn (cnt (fun c => n.testBit c) 7))) : wp_X12_bits N Q x := by
  have key : ∀ (d m a : Nat) (s v : Int32), v = jn m → m < 128 → s = jn a → a + cnt (fun c => m.testBit c) 7 = cnt (fun c => n.testBit c) 7 → cnt (fun c => m.testBit c) 7 < d → wp_X12_bits_4 N Q d s v := by
    intro d
    induction d with
    | zero => intro m a s v _ _ _ _ h2; omega
    | succ d ih =>
      intro m a s v hv hm hs ha h2
      unfold wp_X12_bits_4
      subst hv hs
      refine ⟨fun q => ?_, fun q y hy => ?_⟩
      · simp (disch := omega) only [jn_le, jn_lt, jn_eq, jn_in, jn_add, jn_sub, jn_mul, jn_neg, li_0, li_1, li_2, li_3, li_4, li_5, li_6, li_7, li_8, li_9, li_10, li_11, li_12, li_13, li_14, li_15, li_16, li_17, li_18, li_20, li_24, li_29, li_30, li_31, li_32, li_37, li_39, li_40, li_42, li_43, li_45, li_46, li_47, li_48, li_53, li_57, li_59, li_60, li_61, li_62, li_63, li_80, li_81, li_91, li_93, li_97, li_100, li_122, li_200, li_255, li_256, li_257, li_258, li_259, li_260, li_300, li_314, li_400, li_580, li_999, li_5040, li_9999, li_65536, li_99999, li_7654321] at q
        have e : m = 0 := by omega
        subst e
        rw [show cnt (fun c => Nat.testBit 0 c) 7 = 0 by decide] at ha
        rw [show a = cnt (fun c => n.testBit c) 7 by omega]; exact h
      · simp (disch := omega) only [jn_le, jn_lt, jn_eq, jn_in, jn_add, jn_sub, jn_mul, jn_neg, li_0, li_1, li_2, li_3, li_4, li_5, li_6, li_7, li_8, li_9, li_10, li_11, li_12, li_13, li_14, li_15, li_16, li_17, li_18, li_20, li_24, li_29, li_30, li_31, li_32, li_37, li_39, li_40, li_42, li_43, li_45, li_46, li_47, li_48, li_53, li_57, li_59, li_60, li_61, li_62, li_63, li_80, li_81, li_91, li_93, li_97, li_100, li_122, li_200, li_255, li_256, li_257, li_258, li_259, li_260, li_300, li_314, li_400, li_580, li_999, li_5040, li_9999, li_65536, li_99999, li_7654321] at q
        have k2 : ∀ m : Fin 128, m.val ≠ 0 → (jn (m.val : Int) &&& (jn (m.val : Int) - (1 : Int32))) = jn ((m.val &&& (m.val - 1) : Nat) : Int) ∧ (m.val &&& (m.val - 1)) < 128 ∧ cnt (fun c => (m.val &&& (m.val - 1)).testBit c) 7 + 1 = cnt (fun c => m.val.testBit c) 7 := by decide +kernel
        obtain ⟨k3, k4, k5⟩ := k2 ⟨m, hm⟩ (by show m ≠ 0; omega)
        dsimp only at k3 k4 k5
        exact ih (m &&& (m - 1)) (a + 1) _ _ (by rw [hy]; exact k3) k4 (by (first | rfl | (simp (disch := omega) only [jn_add, jn_sub, jn_mul, jn_neg, li_0, li_1, li_2, li_3, li_4, li_5, li_6, li_7, li_8, li_9, li_10, li_11, li_12, li_13, li_14, li_15, li_16, li_17, li_18, li_20, li_24, li_29, li_30, li_31, li_32, li_37, li_39, li_40, li_42, li_43, li_45, li_46, li_47, li_48, li_53, li_57, li_59, li_60, li_61, li_62, li_63, li_80, li_81, li_91, li_93, li_97, li_100, li_122, li_200, li_255, li_256, li_257, li_258, li_259, li_260, li_300, li_314, li_400, li_580, li_999, li_5040, li_9999, li_65536, li_99999, li_7654321] <;> first | rfl | exact congrArg jn (by omega)) | exact congrArg jn (by omega))) (by omega) (by omega)
  exact key N n 0 _ _ hx hn rfl (by omega) (by have := cnt_le (f := fun c => n.testBit c) (n := 7); omega)
