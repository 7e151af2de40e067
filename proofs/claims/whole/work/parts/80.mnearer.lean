/-! the reference: the first leap that leads nearer -/
section MNE
variable {N m sp : Nat} {LP BK : Nat → Nat} {sd : Nat → Int32}
theorem wm_nearer {r : Nat → Nat} {c0 k0 : Nat} {fa rw' rt' : Nat → Int32} {Q : Int32 → (Nat → Int32) → (Nat → Int32) → Int32 → Int32 → Prop} {x sw' sb : Int32} (hN : 20 ≤ N) (hq : mQ m sp LP BK sd) (hs6 : sp ≤ 6) (hr : Pm m r) (hx : x = jn (rk m r : Int)) (hok : okl m sp (clf LP BK) r c0 k0) (hit : fa (rk m (nxl m r c0 k0)) = fa (rk m r) - 1) (miss : ∀ c k, okl m sp (clf LP BK) r c k → 8 * c + k < 8 * c0 + k0 → fa (rk m (nxl m r c k)) ≠ fa (rk m r) - 1)
    (h : ∀ rw2 rt2, Q (jn (rk m (nxl m r c0 k0) : Int)) rw2 rt2 (jn c0) (jn k0)) : wp_X12_nearer N sd fa Q x rw' rt' sw' sb := by
  have hm := hq.2.2.2.2.1
  have hsd := hq.1
  have hsd1 := hq.2.1
  have hkl := rk_lt (r := r) hm
  unfold wp_X12_nearer
  refine wm_rowOf (r := r) hN hm hsd hr hx (fun rw2 hR => ?_)
  subst hx
  have k7 : ∀ (n c : Nat) (v2 sw' sb : Int32) (rt' : Nat → Int32), v2 = jn c → c ≤ c0 → m < n + c → wp_X12_nearer_7 N sd fa Q n (jn (rk m r : Int)) v2 rw2 rt' sw' sb := by
    intro n
    induction n with
    | zero => intro c v2 sw' sb rt' _ h1 h2; have := hok.1; omega
    | succ n ih =>
      intro c v2 sw' sb rt' e2 hc hn
      have hc0 := hok.1
      have hcm : c < m := by omega
      have hp := iv_lt hr hcm
      have hpc := iv_at hr hcm
      unfold wp_X12_nearer_7
      subst e2
      rw [show (2 : Int32).toNatClampNeg = 2 from rfl, hsd, jn_le (by omega) (by omega)]
      refine ⟨by unfold vp_in; decide, fun z => by omega, fun z => ?_⟩
      have k38 : ∀ (n2 k : Nat) (v4 sw' sb : Int32) (rt' : Nat → Int32), v4 = jn k → 1 ≤ k → k ≤ sp + 1 → 8 * c + k ≤ 8 * c0 + k0 ∨ c < c0 → sp + 1 < n2 + k → wp_X12_nearer_38 N sd fa (wp_X12_nearer_7 N sd fa Q n) Q n2 (jn (rk m r : Int)) (jn c) (jn (iv r c m : Int)) v4 rw2 rt' sw' sb := by
        intro n2
        induction n2 with
        | zero => intro k v4 sw' sb rt' _ h1 h2 _ h3; omega
        | succ n2 ih2 =>
          intro k v4 sw' sb rt' e4 hk1 hk2 hlk hn2
          have hk0 := hok.2.2.1
          unfold wp_X12_nearer_38 wp_X12_nearer_111
          subst e4
          rw [show (1 : Int32).toNatClampNeg = 1 from rfl, hsd1, jn_lt (by omega) (by omega)]
          refine ⟨by unfold vp_in; decide, fun y => ?_, fun y => ?_⟩
          · exact ih (c + 1) _ _ _ _ (by (first | rfl | (simp (disch := omega) only [jn_add, jn_sub, jn_mul, jn_neg, li_0, li_1, li_2, li_3, li_4, li_5, li_6, li_7, li_8, li_9, li_10, li_11, li_12, li_13, li_14, li_15, li_16, li_17, li_18, li_20, li_24, li_29, li_30, li_31, li_32, li_37, li_39, li_40, li_42, li_43, li_45, li_46, li_47, li_48, li_53, li_57, li_59, li_60, li_61, li_62, li_63, li_80, li_81, li_91, li_93, li_97, li_100, li_122, li_200, li_255, li_256, li_257, li_258, li_259, li_260, li_300, li_314, li_400, li_580, li_999, li_5040, li_9999, li_65536, li_99999, li_7654321] <;> first | rfl | exact congrArg jn (by omega)) | exact congrArg jn (by omega))) (by omega) (by omega)
          · have next : ¬ (c = c0 ∧ k = k0) → ∀ rt2, wp_X12_nearer_38 N sd fa (wp_X12_nearer_7 N sd fa Q n) Q n2 (jn (rk m r : Int)) (jn c) (jn (iv r c m : Int)) (jn k + 1) rw2 rt2 sw' sb := by
              intro hne rt2
              exact ih2 (k + 1) _ _ _ _ (by (first | rfl | (simp (disch := omega) only [jn_add, jn_sub, jn_mul, jn_neg, li_0, li_1, li_2, li_3, li_4, li_5, li_6, li_7, li_8, li_9, li_10, li_11, li_12, li_13, li_14, li_15, li_16, li_17, li_18, li_20, li_24, li_29, li_30, li_31, li_32, li_37, li_39, li_40, li_42, li_43, li_45, li_46, li_47, li_48, li_53, li_57, li_59, li_60, li_61, li_62, li_63, li_80, li_81, li_91, li_93, li_97, li_100, li_122, li_200, li_255, li_256, li_257, li_258, li_259, li_260, li_300, li_314, li_400, li_580, li_999, li_5040, li_9999, li_65536, li_99999, li_7654321] <;> first | rfl | exact congrArg jn (by omega)) | exact congrArg jn (by omega))) (by omega) (by omega) (by omega) (by omega)
            rw [jn_sub]
            refine wm_isLeapF hN hq hr.1 hR hp hk1 (by omega) rfl rfl rfl (fun a1 a2 a3 => ⟨fun w => absurd w (by decide), fun _ => ?_⟩) (fun hno => ⟨fun _ => next (fun e => ?_) rt', fun w => absurd rfl w⟩)
            · have ho : okl m sp (clf LP BK) r c k := ⟨hcm, hk1, a2, a1, fun j b1 b2 => by have := a3 j b1 b2; rw [hpc] at this; exact this⟩
              refine wm_rankByF hN hm hsd hr hR hp a1 rfl (congrArg jn (by omega)) (fun rt2 => ?_)
              have hl2 := rk_lt (r := mv r (iv r c m) k) hm
              refine ⟨by simp (disch := omega) only [jn_le, jn_lt, jn_eq, jn_in, jn_add, jn_sub, jn_mul, jn_neg, li_0, li_1, li_2, li_3, li_4, li_5, li_6, li_7, li_8, li_9, li_10, li_11, li_12, li_13, li_14, li_15, li_16, li_17, li_18, li_20, li_24, li_29, li_30, li_31, li_32, li_37, li_39, li_40, li_42, li_43, li_45, li_46, li_47, li_48, li_53, li_57, li_59, li_60, li_61, li_62, li_63, li_80, li_81, li_91, li_93, li_97, li_100, li_122, li_200, li_255, li_256, li_257, li_258, li_259, li_260, li_300, li_314, li_400, li_580, li_999, li_5040, li_9999, li_65536, li_99999, li_7654321] <;> omega, by simp (disch := omega) only [jn_le, jn_lt, jn_eq, jn_in, jn_add, jn_sub, jn_mul, jn_neg, li_0, li_1, li_2, li_3, li_4, li_5, li_6, li_7, li_8, li_9, li_10, li_11, li_12, li_13, li_14, li_15, li_16, li_17, li_18, li_20, li_24, li_29, li_30, li_31, li_32, li_37, li_39, li_40, li_42, li_43, li_45, li_46, li_47, li_48, li_53, li_57, li_59, li_60, li_61, li_62, li_63, li_80, li_81, li_91, li_93, li_97, li_100, li_122, li_200, li_255, li_256, li_257, li_258, li_259, li_260, li_300, li_314, li_400, li_580, li_999, li_5040, li_9999, li_65536, li_99999, li_7654321] <;> omega, ?_⟩
              rw [jn_cln (by omega), jn_cln (by omega)]
              refine ⟨fun w => ?_, fun w => next (fun e => ?_) rt2⟩
              · by_cases e : c = c0 ∧ k = k0
                · obtain ⟨e1, e2⟩ := e
                  subst e1 e2
                  exact h rw2 rt2
                · refine absurd w (miss c k ho ?_)
                  omega
              · obtain ⟨e1, e2⟩ := e
                subst e1 e2
                exact w hit
            · obtain ⟨e1, e2⟩ := e
              subst e1 e2
              refine hno ⟨hok.2.2.2.1, hok.2.2.1, fun j b1 b2 => ?_⟩
              rw [hpc]; exact hok.2.2.2.2 j b1 b2
      have k19 : ∀ (n2 p : Nat) (v3 : Int32), v3 = jn p → p ≤ iv r c m → m < n2 + p → wp_X12_nearer_19 N sd fa (wp_X12_nearer_7 N sd fa Q n) Q n2 (jn (rk m r : Int)) (jn c) v3 rw2 rt' sw' sb := by
        intro n2
        induction n2 with
        | zero => intro p v3 _ h1 h2; omega
        | succ n2 ih2 =>
          intro p v3 e3 hpp hn2
          unfold wp_X12_nearer_19
          subst e3
          have hrp := hr.1 p (by omega)
          rw [jn_cln (by omega), hR p (by omega), jn_eq (by omega) (by omega)]
          refine ⟨by simp (disch := omega) only [jn_le, jn_lt, jn_eq, jn_in, jn_add, jn_sub, jn_mul, jn_neg, li_0, li_1, li_2, li_3, li_4, li_5, li_6, li_7, li_8, li_9, li_10, li_11, li_12, li_13, li_14, li_15, li_16, li_17, li_18, li_20, li_24, li_29, li_30, li_31, li_32, li_37, li_39, li_40, li_42, li_43, li_45, li_46, li_47, li_48, li_53, li_57, li_59, li_60, li_61, li_62, li_63, li_80, li_81, li_91, li_93, li_97, li_100, li_122, li_200, li_255, li_256, li_257, li_258, li_259, li_260, li_300, li_314, li_400, li_580, li_999, li_5040, li_9999, li_65536, li_99999, li_7654321] <;> omega, fun w => ?_, fun w => ?_⟩
          · have e : iv r c m = p := iv_is hr (by omega) (by omega)
            rw [← e]
            exact k38 N 1 _ _ _ _ rfl (by omega) (by omega) (by have := hok.2.1; omega) (by omega)
          · refine ih2 (p + 1) _ (by (first | rfl | (simp (disch := omega) only [jn_add, jn_sub, jn_mul, jn_neg, li_0, li_1, li_2, li_3, li_4, li_5, li_6, li_7, li_8, li_9, li_10, li_11, li_12, li_13, li_14, li_15, li_16, li_17, li_18, li_20, li_24, li_29, li_30, li_31, li_32, li_37, li_39, li_40, li_42, li_43, li_45, li_46, li_47, li_48, li_53, li_57, li_59, li_60, li_61, li_62, li_63, li_80, li_81, li_91, li_93, li_97, li_100, li_122, li_200, li_255, li_256, li_257, li_258, li_259, li_260, li_300, li_314, li_400, li_580, li_999, li_5040, li_9999, li_65536, li_99999, li_7654321] <;> first | rfl | exact congrArg jn (by omega)) | exact congrArg jn (by omega))) ?_ (by omega)
            have : p ≠ iv r c m := by intro q; rw [q, hpc] at w; exact w rfl
            omega
      exact k19 N 0 _ rfl (by omega) (by omega)
  exact k7 N 0 _ _ _ _ rfl (by omega) (by omega)
end MNE
