/-! the reference: behind -/
section MBE
variable {N m sp : Nat} {LP BK O : Nat → Nat} {sd : Nat → Int32}
theorem wm_aheadOf {r : Nat → Nat} {c : Nat} {rw' : Nat → Int32} {K : Int32 → Prop} {y : Int32} (hN : 10 ≤ N) (hm : m ≤ 7) (hr : Pm m r) (hR : ar m rw' r) (hc : c < m) (hy : y = jn c) (h : K (jn (gn m r (iv r c m) : Int))) : wp_X12_aheadOf N rw' K y := by
  unfold wp_X12_aheadOf
  subst hy
  have hp := iv_lt hr hc
  have key : ∀ (k j : Nat) (v2 v3 : Int32), v3 = jn j → j ≤ iv r c m → v2 = jn (gn m r j : Int) → m < k + j → wp_X12_aheadOf_4 N rw' K k (jn c) v2 v3 := by
    intro k
    induction k with
    | zero => intro j v2 v3 _ h1 _ h2; omega
    | succ k ih =>
      intro j v2 v3 e3 hj e2 hk
      unfold wp_X12_aheadOf_4
      subst e3
      have hrj := hr.1 j (by omega)
      rw [jn_cln (by omega), hR j (by omega), jn_eq (by omega) (by omega)]
      refine ⟨by simp (disch := omega) only [jn_le, jn_lt, jn_eq, jn_in, jn_add, jn_sub, jn_mul, jn_neg, li_0, li_1, li_2, li_3, li_4, li_5, li_6, li_7, li_8, li_9, li_10, li_11, li_12, li_13, li_14, li_15, li_16, li_17, li_18, li_20, li_24, li_29, li_30, li_31, li_32, li_37, li_39, li_40, li_42, li_43, li_45, li_46, li_47, li_48, li_53, li_57, li_59, li_60, li_61, li_62, li_63, li_80, li_81, li_91, li_93, li_97, li_100, li_122, li_200, li_255, li_256, li_257, li_258, li_259, li_260, li_300, li_314, li_400, li_580, li_999, li_5040, li_9999, li_65536, li_99999, li_7654321] <;> omega, fun w => ?_, fun w => ⟨by simp (disch := omega) only [jn_le, jn_lt, jn_eq, jn_in, jn_add, jn_sub, jn_mul, jn_neg, li_0, li_1, li_2, li_3, li_4, li_5, li_6, li_7, li_8, li_9, li_10, li_11, li_12, li_13, li_14, li_15, li_16, li_17, li_18, li_20, li_24, li_29, li_30, li_31, li_32, li_37, li_39, li_40, li_42, li_43, li_45, li_46, li_47, li_48, li_53, li_57, li_59, li_60, li_61, li_62, li_63, li_80, li_81, li_91, li_93, li_97, li_100, li_122, li_200, li_255, li_256, li_257, li_258, li_259, li_260, li_300, li_314, li_400, li_580, li_999, li_5040, li_9999, li_65536, li_99999, li_7654321] <;> omega, fun x1 e1 => ?_⟩⟩
      · have : iv r c m = j := iv_is hr (by omega) (by omega)
        rw [this] at h
        rw [e2]; exact h
      · have hne : j ≠ iv r c m := by
          intro q
          have := iv_at hr hc
          rw [← q] at this; omega
        refine ih (j + 1) _ _ (by (first | rfl | (simp (disch := omega) only [jn_add, jn_sub, jn_mul, jn_neg, li_0, li_1, li_2, li_3, li_4, li_5, li_6, li_7, li_8, li_9, li_10, li_11, li_12, li_13, li_14, li_15, li_16, li_17, li_18, li_20, li_24, li_29, li_30, li_31, li_32, li_37, li_39, li_40, li_42, li_43, li_45, li_46, li_47, li_48, li_53, li_57, li_59, li_60, li_61, li_62, li_63, li_80, li_81, li_91, li_93, li_97, li_100, li_122, li_200, li_255, li_256, li_257, li_258, li_259, li_260, li_300, li_314, li_400, li_580, li_999, li_5040, li_9999, li_65536, li_99999, li_7654321] <;> first | rfl | exact congrArg jn (by omega)) | exact congrArg jn (by omega))) (by omega) ?_ (by omega)
        rw [e1, e2, jn_bit (by omega), jn_or, gn_succ hr (by omega)]
  refine key N 0 _ _ rfl (by omega) ?_ (by omega)
  have : gn m r 0 = 0 := by
    unfold gn
    refine (bs_is (fun c => ?_)).symm
    rw [Nat.zero_testBit, decide_eq_false (show ¬ iv r c m < 0 by omega), Bool.and_false]
  rw [this]; rfl
theorem wm_behind {x : Int32} {Q : Int32 → (Nat → Int32) → (Nat → Int32) → (Nat → Int32) → (Nat → Int32) → Int32 → Prop} {rw' rt' fa qu : Nat → Int32} {re : Int32} (hN : 6000 ≤ N) (hq : mQ m sp LP BK sd) (hs6 : sp ≤ 6) (hO : Pm m O) (hpl : ∀ p : Nat, p < m → sd (13 + 4 * O p) = jn p)
    (h0 : asC m x = none → ∀ rw' rt' fa qu re, Q (-1) rw' rt' fa qu re) (h1 : ∀ c, asC m x = some c → ∀ y : Nat, aBe (Lg m sp (clf LP BK)) m (rk m O) c y → ∀ rw' rt' fa qu re, Q (jn (y : Int)) rw' rt' fa qu re) : wp_X12_behind N sd Q x rw' rt' fa qu re := by
  have hm := hq.2.2.2.2.1
  unfold wp_X12_behind
  refine wm_isChild hm hq.1 ?_
  cases hc : asC m x with
  | none => exact ⟨fun _ => h0 hc _ _ _ _ _, fun u => absurd rfl u⟩
  | some c =>
    obtain ⟨hcm, hx⟩ := asC_some hc
    rw [if_pos (Option.isSome_some)]
    refine ⟨fun u => absurd u (by decide), fun _ => ?_⟩
    refine wm_rankNow (by omega) hm hq.1 hO hpl (fun rw3 _ => ?_)
    refine wm_seeks hN hm hs6 hq.1 hq.2.1 (WY_F (by omega) hq) hO rfl (fun F ro dp rw' rt' fa qu re hB hF => ⟨by unfold vp_in; decide, fun x9 e9 => ?_⟩)
    obtain ⟨c1, c2, c3, c4⟩ := hB
    rw [show (2 : Int32).toNatClampNeg = 2 from rfl, hq.1] at e9
    have key : ∀ (k j y : Nat) (v2 v3 : Int32) (rw' : Nat → Int32), v3 = jn j → j ≤ F → v2 = jn (y : Int) → (∀ d, y.testBit d = true ↔ (d < m ∧ ∀ i, i < j → ∀ r, Pm m r → rk m r = ro i → iv r d m < iv r c m)) → F < k + j → wp_X12_behind_32 N sd Q k x v2 v3 rw' rt' fa qu re := by
      intro k
      induction k with
      | zero => intro j y v2 v3 rw' _ h1 _ _ h2; omega
      | succ k ih =>
        intro j y v2 v3 rw' e3 hj e2 hy hk
        unfold wp_X12_behind_32
        subst e3
        rw [c1, jn_le (by omega) (by omega)]
        refine ⟨fun z => ?_, fun z => ?_⟩
        · rw [← c1, e2]
          refine h1 c hc y (fun d => ?_) _ _ _ _ _
          rw [hy d]
          refine ⟨fun ⟨a, b⟩ => ⟨a, fun r e hr hd => ?_⟩, fun ⟨a, b⟩ => ⟨a, fun i hi r hr hrk => ?_⟩⟩
          · obtain ⟨i, i1, i2, -⟩ := (FB_iff hF).mp hd
            exact b i (by omega) r hr i2.symm
          · refine b r (dp i) hr ?_
            rw [hrk]; exact FB_Ds hF (by omega)
        · obtain ⟨g1, g2, g3, g4, r, hr, hrk⟩ := c3 j (by omega)
          refine ⟨by simp (disch := omega) only [jn_le, jn_lt, jn_eq, jn_in, jn_add, jn_sub, jn_mul, jn_neg, li_0, li_1, li_2, li_3, li_4, li_5, li_6, li_7, li_8, li_9, li_10, li_11, li_12, li_13, li_14, li_15, li_16, li_17, li_18, li_20, li_24, li_29, li_30, li_31, li_32, li_37, li_39, li_40, li_42, li_43, li_45, li_46, li_47, li_48, li_53, li_57, li_59, li_60, li_61, li_62, li_63, li_80, li_81, li_91, li_93, li_97, li_100, li_122, li_200, li_255, li_256, li_257, li_258, li_259, li_260, li_300, li_314, li_400, li_580, li_999, li_5040, li_9999, li_65536, li_99999, li_7654321] <;> omega, ?_⟩
          rw [jn_cln (by omega), g1]
          refine wm_rowOf (r := r) (by omega) hm hq.1 hr (by rw [hrk]) (fun rw2 hR => ?_)
          refine wm_aheadOf (by omega) hm hr hR hcm hx (fun x12 e12 => ?_)
          rw [← c1]
          refine ih (j + 1) (y &&& gn m r (iv r c m)) _ _ _ (by (first | rfl | (simp (disch := omega) only [jn_add, jn_sub, jn_mul, jn_neg, li_0, li_1, li_2, li_3, li_4, li_5, li_6, li_7, li_8, li_9, li_10, li_11, li_12, li_13, li_14, li_15, li_16, li_17, li_18, li_20, li_24, li_29, li_30, li_31, li_32, li_37, li_39, li_40, li_42, li_43, li_45, li_46, li_47, li_48, li_53, li_57, li_59, li_60, li_61, li_62, li_63, li_80, li_81, li_91, li_93, li_97, li_100, li_122, li_200, li_255, li_256, li_257, li_258, li_259, li_260, li_300, li_314, li_400, li_580, li_999, li_5040, li_9999, li_65536, li_99999, li_7654321] <;> first | rfl | exact congrArg jn (by omega)) | exact congrArg jn (by omega))) (by omega) (by rw [e12, e2, jn_and]) (fun d => ?_) (by omega)
          rw [Nat.testBit_and, Bool.and_eq_true, hy d]
          unfold gn
          rw [bs_bit, Bool.and_eq_true, decide_eq_true_eq, decide_eq_true_eq]
          constructor
          · rintro ⟨⟨a, b⟩, -, e⟩
            refine ⟨a, fun i hi r' hr' hrk' => ?_⟩
            by_cases q : i = j
            · subst q
              have hh := rk_inj hm hr' hr (by rw [hrk', hrk])
              rw [iv_congr hh, iv_congr (c := c) hh]; exact e
            · exact b i (by omega) r' hr' hrk'
          · rintro ⟨a, b⟩
            exact ⟨⟨a, fun i hi => b i (by omega)⟩, a, b j (by omega) r hr hrk⟩
    refine key N 0 (2 ^ m - 1) _ _ _ rfl (by omega) ?_ (fun d => ?_) (by omega)
    · rw [e9, jn_bit (by omega), li_1, jn_sub]
      refine congrArg jn ?_
      have : 0 < 2 ^ m := Nat.two_pow_pos m
      omega
    · rw [Nat.testBit_two_pow_sub_one, decide_eq_true_eq]
      exact ⟨fun a => ⟨a, fun i hi => by omega⟩, fun a => a.1⟩
end MBE
