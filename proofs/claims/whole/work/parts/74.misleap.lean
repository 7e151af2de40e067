/-! the reference: whether one can leap so many backs; how far each order is -/
section MIL
variable {N m sp : Nat} {r LP BK : Nat → Nat} {sd : Nat → Int32}
/-- what the reference knows of who can leap whom -/
def mQ (m sp : Nat) (LP BK : Nat → Nat) (sd : Nat → Int32) : Prop := sd 2 = jn m ∧ sd 1 = jn sp ∧ (∀ c, c < m → sd (39 + c) = jn (LP c)) ∧ (∀ c, c < m → sd (11 + 4 * c) = jn (BK c)) ∧ m ≤ 7 ∧ sp ≤ 9999 ∧ (∀ c, c < m → LP c ≤ 9999) ∧ (∀ c, c < m → BK c ≤ 9999)
theorem wm_isLeapF {p k : Nat} {rw' : Nat → Int32} {Q : Int32 → Prop} {x y z : Int32} (hN : 20 ≤ N) (hq : mQ m sp LP BK sd) (hr : ∀ i, i < m → r i < m) (hR : ar m rw' r) (hp : p < m) (hk1 : 1 ≤ k) (hk2 : k ≤ 9999) (hx : x = jn p) (hy : y = jn ((p : Int) - (k : Int))) (hz : z = (-1 : Int32))
    (h1 : k ≤ p → k ≤ sp → (∀ j, 1 ≤ j → j ≤ k → clf LP BK (r p) (r (p - j)) = true) → Q 1) (h0 : ¬ (k ≤ p ∧ k ≤ sp ∧ (∀ j, 1 ≤ j → j ≤ k → clf LP BK (r p) (r (p - j)) = true)) → Q 0) : wp_X12_isLeap N sd rw' Q x y z := by
  obtain ⟨q1, q2, q3, q4, hm, hsp, hLb, hBb⟩ := hq
  subst hx hy hz
  have hrp := hr p hp
  have key : ∀ (n j : Nat) (v4 : Int32), v4 = jn ((p : Int) - (j : Int)) → 1 ≤ j → j ≤ k + 1 → k ≤ p → k ≤ sp → (∀ i, 1 ≤ i → i < j → clf LP BK (r p) (r (p - i)) = true) → k + 1 < n + j → wp_X12_isLeap_45 N sd rw' Q n (jn p) (jn ((p : Int) - (k : Int))) (-1 : Int32) v4 := by
    intro n
    induction n with
    | zero => intro j v4 _ h1 h2 _ _ _ h3; omega
    | succ n ih =>
      intro j v4 e4 hj1 hj2 hC hS ha hn
      unfold wp_X12_isLeap_45
      subst e4
      rw [show (-1 : Int32) = jn (-1) from rfl, jn_add, jn_eq (by omega) (by omega)]
      refine ⟨fun w => h1 hC hS (fun i a b => ha i a (by omega)), fun w => ?_⟩
      rw [show ((p : Int) - (j : Int)) = ((p - j : Nat) : Int) by omega]
      have hrj := hr (p - j) (by omega)
      refine ⟨by simp (disch := omega) only [jn_le, jn_lt, jn_eq, jn_in, jn_add, jn_sub, jn_mul, jn_neg, li_0, li_1, li_2, li_3, li_4, li_5, li_6, li_7, li_8, li_9, li_10, li_11, li_12, li_13, li_14, li_15, li_16, li_17, li_18, li_20, li_24, li_29, li_30, li_31, li_32, li_37, li_39, li_40, li_42, li_43, li_45, li_46, li_47, li_48, li_53, li_57, li_59, li_60, li_61, li_62, li_63, li_80, li_81, li_91, li_93, li_97, li_100, li_122, li_200, li_255, li_256, li_257, li_258, li_259, li_260, li_300, li_314, li_400, li_580, li_999, li_5040, li_9999, li_65536, li_99999, li_7654321] <;> omega, ?_⟩
      rw [jn_cln (by omega), hR p hp, jn_cln (by omega), hR _ (by omega)]
      refine wm_backOf rfl (by omega) ⟨by simp (disch := omega) only [jn_le, jn_lt, jn_eq, jn_in, jn_add, jn_sub, jn_mul, jn_neg, li_0, li_1, li_2, li_3, li_4, li_5, li_6, li_7, li_8, li_9, li_10, li_11, li_12, li_13, li_14, li_15, li_16, li_17, li_18, li_20, li_24, li_29, li_30, li_31, li_32, li_37, li_39, li_40, li_42, li_43, li_45, li_46, li_47, li_48, li_53, li_57, li_59, li_60, li_61, li_62, li_63, li_80, li_81, li_91, li_93, li_97, li_100, li_122, li_200, li_255, li_256, li_257, li_258, li_259, li_260, li_300, li_314, li_400, li_580, li_999, li_5040, li_9999, li_65536, li_99999, li_7654321] <;> omega, ?_⟩
      rw [show (39 : Int32) + jn (r p : Int) = jn ((39 + r p : Nat) : Int) from by (first | rfl | (simp (disch := omega) only [jn_add, jn_sub, jn_mul, jn_neg, li_0, li_1, li_2, li_3, li_4, li_5, li_6, li_7, li_8, li_9, li_10, li_11, li_12, li_13, li_14, li_15, li_16, li_17, li_18, li_20, li_24, li_29, li_30, li_31, li_32, li_37, li_39, li_40, li_42, li_43, li_45, li_46, li_47, li_48, li_53, li_57, li_59, li_60, li_61, li_62, li_63, li_80, li_81, li_91, li_93, li_97, li_100, li_122, li_200, li_255, li_256, li_257, li_258, li_259, li_260, li_300, li_314, li_400, li_580, li_999, li_5040, li_9999, li_65536, li_99999, li_7654321] <;> first | rfl | exact congrArg jn (by omega)) | exact congrArg jn (by omega)), jn_cln (by omega), q3 _ hrp, q4 _ hrj, jn_le (by have := hBb _ hrj; omega) (by have := hLb _ hrp; omega)]
      refine ⟨by simp (disch := omega) only [jn_le, jn_lt, jn_eq, jn_in, jn_add, jn_sub, jn_mul, jn_neg, li_0, li_1, li_2, li_3, li_4, li_5, li_6, li_7, li_8, li_9, li_10, li_11, li_12, li_13, li_14, li_15, li_16, li_17, li_18, li_20, li_24, li_29, li_30, li_31, li_32, li_37, li_39, li_40, li_42, li_43, li_45, li_46, li_47, li_48, li_53, li_57, li_59, li_60, li_61, li_62, li_63, li_80, li_81, li_91, li_93, li_97, li_100, li_122, li_200, li_255, li_256, li_257, li_258, li_259, li_260, li_300, li_314, li_400, li_580, li_999, li_5040, li_9999, li_65536, li_99999, li_7654321] <;> omega, fun w2 x5 q5 => ?_, fun w2 => h0 (fun g => ?_)⟩
      · refine ih (j + 1) _ ?_ (by omega) (by omega) hC hS (fun i a b => ?_) (by omega)
        · rw [q5, jn_add]; exact congrArg jn (by omega)
        · by_cases e : i = j
          · subst e; unfold clf; exact decide_eq_true (by omega)
          · exact ha i a (by omega)
      · have := g.2.2 j hj1 (by omega)
        unfold clf at this
        have := of_decide_eq_true this
        omega
  unfold wp_X12_isLeap wp_X12_isLeap_38
  rw [show (2 : Int32).toNatClampNeg = 2 from rfl, show (1 : Int32).toNatClampNeg = 1 from rfl, q1, q2]
  refine ⟨by unfold vp_in; decide, ?_⟩
  refine wm_in (a := (p : Int) - (k : Int)) (b := 0) (c := (m : Int) - 1) (jn_l (by omega)) rfl (by rw [li_1, jn_sub]; exact jn_l (by omega)) (by omega) (by omega) (by omega) ?_
  by_cases hC : k ≤ p
  · rw [if_pos (by omega)]
    refine ⟨fun w => absurd w (by decide), fun _ => ⟨by unfold vp_in; decide, ?_⟩⟩
    refine wm_in (a := (k : Int)) (b := 1) (c := (sp : Int)) (by rw [jn_sub, show (-1 : Int32) = jn (-1) from rfl, jn_mul, show ((p : Int) - (k : Int) - (p : Int)) * (-1) = (k : Int) by omega]; exact jn_l (by omega)) rfl (jn_l (by omega)) (by omega) (by omega) (by omega) ?_
    by_cases hS : k ≤ sp
    · rw [if_pos (by omega)]
      refine ⟨fun w => absurd w (by decide), fun _ x3 q3 => ?_⟩
      refine key N 1 _ ?_ (by omega) (by omega) hC hS (fun i a b => by omega) (by omega)
      rw [q3, show (-1 : Int32) = jn (-1) from rfl, jn_add]; exact congrArg jn (by omega)
    · rw [if_neg (by omega)]
      exact ⟨fun _ => h0 (fun g => hS g.2.1), fun w => absurd rfl w⟩
  · rw [if_neg (by omega)]
    exact ⟨fun _ => h0 (fun g => hC g.1), fun w => absurd rfl w⟩
theorem wm_isLeapB {p k : Nat} {rw' : Nat → Int32} {Q : Int32 → Prop} {x y z : Int32} (hN : 20 ≤ N) (hq : mQ m sp LP BK sd) (hr : ∀ i, i < m → r i < m) (hR : ar m rw' r) (hp : p < m) (hk1 : 1 ≤ k) (hk2 : k ≤ 9999) (hx : x = jn p) (hy : y = jn ((p : Int) + (k : Int))) (hz : z = (1 : Int32))
    (h1 : p + k < m → k ≤ sp → (∀ j, 1 ≤ j → j ≤ k → clf LP BK (r p) (r (p + j)) = true) → Q 1) (h0 : ¬ (p + k < m ∧ k ≤ sp ∧ (∀ j, 1 ≤ j → j ≤ k → clf LP BK (r p) (r (p + j)) = true)) → Q 0) : wp_X12_isLeap N sd rw' Q x y z := by
  obtain ⟨q1, q2, q3, q4, hm, hsp, hLb, hBb⟩ := hq
  subst hx hy hz
  have hrp := hr p hp
  have key : ∀ (n j : Nat) (v4 : Int32), v4 = jn ((p : Int) + (j : Int)) → 1 ≤ j → j ≤ k + 1 → p + k < m → k ≤ sp → (∀ i, 1 ≤ i → i < j → clf LP BK (r p) (r (p + i)) = true) → k + 1 < n + j → wp_X12_isLeap_45 N sd rw' Q n (jn p) (jn ((p : Int) + (k : Int))) (1 : Int32) v4 := by
    intro n
    induction n with
    | zero => intro j v4 _ h1 h2 _ _ _ h3; omega
    | succ n ih =>
      intro j v4 e4 hj1 hj2 hC hS ha hn
      unfold wp_X12_isLeap_45
      subst e4
      rw [show (1 : Int32) = jn (1) from rfl, jn_add, jn_eq (by omega) (by omega)]
      refine ⟨fun w => h1 hC hS (fun i a b => ha i a (by omega)), fun w => ?_⟩
      rw [show ((p : Int) + (j : Int)) = ((p + j : Nat) : Int) by omega]
      have hrj := hr (p + j) (by omega)
      refine ⟨by simp (disch := omega) only [jn_le, jn_lt, jn_eq, jn_in, jn_add, jn_sub, jn_mul, jn_neg, li_0, li_1, li_2, li_3, li_4, li_5, li_6, li_7, li_8, li_9, li_10, li_11, li_12, li_13, li_14, li_15, li_16, li_17, li_18, li_20, li_24, li_29, li_30, li_31, li_32, li_37, li_39, li_40, li_42, li_43, li_45, li_46, li_47, li_48, li_53, li_57, li_59, li_60, li_61, li_62, li_63, li_80, li_81, li_91, li_93, li_97, li_100, li_122, li_200, li_255, li_256, li_257, li_258, li_259, li_260, li_300, li_314, li_400, li_580, li_999, li_5040, li_9999, li_65536, li_99999, li_7654321] <;> omega, ?_⟩
      rw [jn_cln (by omega), hR p hp, jn_cln (by omega), hR _ (by omega)]
      refine wm_backOf rfl (by omega) ⟨by simp (disch := omega) only [jn_le, jn_lt, jn_eq, jn_in, jn_add, jn_sub, jn_mul, jn_neg, li_0, li_1, li_2, li_3, li_4, li_5, li_6, li_7, li_8, li_9, li_10, li_11, li_12, li_13, li_14, li_15, li_16, li_17, li_18, li_20, li_24, li_29, li_30, li_31, li_32, li_37, li_39, li_40, li_42, li_43, li_45, li_46, li_47, li_48, li_53, li_57, li_59, li_60, li_61, li_62, li_63, li_80, li_81, li_91, li_93, li_97, li_100, li_122, li_200, li_255, li_256, li_257, li_258, li_259, li_260, li_300, li_314, li_400, li_580, li_999, li_5040, li_9999, li_65536, li_99999, li_7654321] <;> omega, ?_⟩
      rw [show (39 : Int32) + jn (r p : Int) = jn ((39 + r p : Nat) : Int) from by (first | rfl | (simp (disch := omega) only [jn_add, jn_sub, jn_mul, jn_neg, li_0, li_1, li_2, li_3, li_4, li_5, li_6, li_7, li_8, li_9, li_10, li_11, li_12, li_13, li_14, li_15, li_16, li_17, li_18, li_20, li_24, li_29, li_30, li_31, li_32, li_37, li_39, li_40, li_42, li_43, li_45, li_46, li_47, li_48, li_53, li_57, li_59, li_60, li_61, li_62, li_63, li_80, li_81, li_91, li_93, li_97, li_100, li_122, li_200, li_255, li_256, li_257, li_258, li_259, li_260, li_300, li_314, li_400, li_580, li_999, li_5040, li_9999, li_65536, li_99999, li_7654321] <;> first | rfl | exact congrArg jn (by omega)) | exact congrArg jn (by omega)), jn_cln (by omega), q3 _ hrp, q4 _ hrj, jn_le (by have := hBb _ hrj; omega) (by have := hLb _ hrp; omega)]
      refine ⟨by simp (disch := omega) only [jn_le, jn_lt, jn_eq, jn_in, jn_add, jn_sub, jn_mul, jn_neg, li_0, li_1, li_2, li_3, li_4, li_5, li_6, li_7, li_8, li_9, li_10, li_11, li_12, li_13, li_14, li_15, li_16, li_17, li_18, li_20, li_24, li_29, li_30, li_31, li_32, li_37, li_39, li_40, li_42, li_43, li_45, li_46, li_47, li_48, li_53, li_57, li_59, li_60, li_61, li_62, li_63, li_80, li_81, li_91, li_93, li_97, li_100, li_122, li_200, li_255, li_256, li_257, li_258, li_259, li_260, li_300, li_314, li_400, li_580, li_999, li_5040, li_9999, li_65536, li_99999, li_7654321] <;> omega, fun w2 x5 q5 => ?_, fun w2 => h0 (fun g => ?_)⟩
      · refine ih (j + 1) _ ?_ (by omega) (by omega) hC hS (fun i a b => ?_) (by omega)
        · rw [q5, jn_add]; exact congrArg jn (by omega)
        · by_cases e : i = j
          · subst e; unfold clf; exact decide_eq_true (by omega)
          · exact ha i a (by omega)
      · have := g.2.2 j hj1 (by omega)
        unfold clf at this
        have := of_decide_eq_true this
        omega
  unfold wp_X12_isLeap wp_X12_isLeap_38
  rw [show (2 : Int32).toNatClampNeg = 2 from rfl, show (1 : Int32).toNatClampNeg = 1 from rfl, q1, q2]
  refine ⟨by unfold vp_in; decide, ?_⟩
  refine wm_in (a := (p : Int) + (k : Int)) (b := 0) (c := (m : Int) - 1) (jn_l (by omega)) rfl (by rw [li_1, jn_sub]; exact jn_l (by omega)) (by omega) (by omega) (by omega) ?_
  by_cases hC : p + k < m
  · rw [if_pos (by omega)]
    refine ⟨fun w => absurd w (by decide), fun _ => ⟨by unfold vp_in; decide, ?_⟩⟩
    refine wm_in (a := (k : Int)) (b := 1) (c := (sp : Int)) (by rw [jn_sub, show (1 : Int32) = jn (1) from rfl, jn_mul, show ((p : Int) + (k : Int) - (p : Int)) * (1) = (k : Int) by omega]; exact jn_l (by omega)) rfl (jn_l (by omega)) (by omega) (by omega) (by omega) ?_
    by_cases hS : k ≤ sp
    · rw [if_pos (by omega)]
      refine ⟨fun w => absurd w (by decide), fun _ x3 q3 => ?_⟩
      refine key N 1 _ ?_ (by omega) (by omega) hC hS (fun i a b => by omega) (by omega)
      rw [q3, show (1 : Int32) = jn (1) from rfl, jn_add]; exact congrArg jn (by omega)
    · rw [if_neg (by omega)]
      exact ⟨fun _ => h0 (fun g => hS g.2.1), fun w => absurd rfl w⟩
  · rw [if_neg (by omega)]
    exact ⟨fun _ => h0 (fun g => hC g.1), fun w => absurd rfl w⟩
end MIL
