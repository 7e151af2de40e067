/-! class Reach: an order's number, whom a child can leap -/
theorem fc_ax {k : Nat} (h : k < 8) : ax_fac k = jn (fc k : Int) := by
  have q : ∀ k : Fin 8, ax_fac k.val = jn (fc k.val : Int) := by decide +kernel
  exact q ⟨k, h⟩
theorem fc_r {k : Nat} (h : k < 8) : fc k ≤ 5040 := by
  have q : ∀ k : Fin 8, fc k.val ≤ 5040 := by decide
  exact q ⟨k, h⟩
section CRK
variable {N m : Nat} {r : Nat → Nat}
theorem wl_weight {p : Nat} {Q : Int32 → Prop} {x : Int32} (hm : m ≤ 7) (hp : p < m) (hx : x = jn p) (h : Q (jn (fc (m - 1 - p) : Int))) : wp_X5_weight N (jn m) Q x := by
  unfold wp_X5_weight
  rw [hx, show jn (m : Int) - (1 : Int32) - jn (p : Int) = jn ((m - 1 - p : Nat) : Int) from by (first | rfl | (simp (disch := omega) only [jn_add, jn_sub, jn_mul, jn_neg, li_0, li_1, li_2, li_3, li_4, li_5, li_6, li_7, li_8, li_9, li_10, li_11, li_12, li_13, li_14, li_15, li_16, li_17, li_18, li_20, li_24, li_29, li_30, li_31, li_32, li_37, li_39, li_40, li_42, li_43, li_45, li_46, li_47, li_48, li_53, li_57, li_59, li_60, li_61, li_62, li_63, li_80, li_81, li_91, li_93, li_97, li_100, li_122, li_200, li_255, li_256, li_257, li_258, li_259, li_260, li_300, li_314, li_400, li_580, li_999, li_5040, li_9999, li_65536, li_99999, li_7654321] <;> first | rfl | exact congrArg jn (by omega)) | exact congrArg jn (by omega)), jn_cln (by omega), fc_ax (by omega)]
  exact ⟨by simp (disch := omega) only [jn_le, jn_lt, jn_eq, jn_in, jn_add, jn_sub, jn_mul, jn_neg, li_0, li_1, li_2, li_3, li_4, li_5, li_6, li_7, li_8, li_9, li_10, li_11, li_12, li_13, li_14, li_15, li_16, li_17, li_18, li_20, li_24, li_29, li_30, li_31, li_32, li_37, li_39, li_40, li_42, li_43, li_45, li_46, li_47, li_48, li_53, li_57, li_59, li_60, li_61, li_62, li_63, li_80, li_81, li_91, li_93, li_97, li_100, li_122, li_200, li_255, li_256, li_257, li_258, li_259, li_260, li_300, li_314, li_400, li_580, li_999, li_5040, li_9999, li_65536, li_99999, li_7654321] <;> omega, h⟩
/-- those who are ahead of a place -/
def gn (m : Nat) (r : Nat → Nat) (p : Nat) : Nat := bs (fun c => decide (iv r c m < p)) m
theorem gn_succ {p : Nat} (h : Pm m r) (hp : p < m) : gn m r p ||| 2 ^ r p = gn m r (p + 1) := by
  unfold gn
  refine bs_is (fun c => ?_)
  have hr := h.1 p hp
  rw [Nat.testBit_or, bs_bit]
  by_cases e : c = r p
  · subst e
    rw [Nat.testBit_two_pow_self, Bool.or_true, decide_eq_true hr, iv_eq h hp, decide_eq_true (by omega)]; rfl
  · rw [Nat.testBit_two_pow_of_ne (fun q => e q.symm), Bool.or_false]
    by_cases hc : c < m
    · rw [decide_eq_true hc, Bool.true_and, Bool.true_and]
      refine decide_eq_decide.mpr ?_
      have h2 := iv_at h hc
      have : iv r c m ≠ p := by intro q; rw [q] at h2; exact e h2.symm
      omega
    · rw [decide_eq_false hc, Bool.false_and, Bool.false_and]
theorem gn_less {p : Nat} (hm : m ≤ 7) (h : Pm m r) (hp : p < m) : cnt (fun c => (gn m r p &&& (2 ^ r p - 1)).testBit c) 7 + ls m r p = r p := by
  have hr := h.1 p hp
  rw [ls_c h hp]
  have e1 : cnt (fun c => (gn m r p &&& (2 ^ r p - 1)).testBit c) 7 = cnt (fun c => decide (iv r c m < p)) (r p) := by
    have e2 : cnt (fun c => (gn m r p &&& (2 ^ r p - 1)).testBit c) 7 = cnt (fun c => (decide (c < m) && decide (iv r c m < p)) && decide (c < r p)) 7 := by
      refine cnt_congr (fun c _ => ?_)
      rw [Nat.and_two_pow_sub_one_eq_mod, Nat.testBit_mod_two_pow, Bool.and_comm]
      unfold gn
      rw [bs_bit]
    rw [e2, cnt_cut, Nat.min_eq_left (by omega)]
    refine cnt_congr (fun c hc => ?_)
    rw [decide_eq_true (show c < m by omega), Bool.true_and]
  rw [e1]
  have e3 := cnt_not (f := fun c => decide (iv r c m < p)) (n := r p)
  have e4 : cnt (fun c => decide (p ≤ iv r c m)) (r p) = cnt (fun c => !decide (iv r c m < p)) (r p) := by
    refine cnt_congr (fun c _ => ?_)
    rw [← decide_not]
    exact decide_eq_decide.mpr (by omega)
  rw [e4]; exact e3
theorem wl_rank {Q : Int32 → (Nat → Int32) → Prop} {od le : Nat → Int32} (hN : 10 ≤ N) (hm : m ≤ 7) (h : Pm m r) (hO : ar m od r) (hQ : ∀ le', ar m le' (ls m r) → Q (jn (rk m r : Int)) le') : wp_X5_rank N (jn m) od Q le := by
  unfold wp_X5_rank
  have key : ∀ (n p : Nat) (v1 v2 v3 : Int32) (le : Nat → Int32), v3 = jn p → p ≤ m → v1 = jn ((rk m r : Int) - (rt m r (m - p) : Int)) → v2 = jn (gn m r p : Int) → ar p le (ls m r) → m < n + p → wp_X5_rank_6 N (jn m) od Q n v1 v2 v3 le := by
    intro n
    induction n with
    | zero => intro p v1 v2 v3 le _ h1 _ _ _ h2; omega
    | succ n ih =>
      intro p v1 v2 v3 le h3 hp h1 h2 hle hn
      unfold wp_X5_rank_6
      subst h3
      refine ⟨fun hc => ?_, fun hc => ?_⟩
      · simp (disch := omega) only [jn_le, jn_lt, jn_eq, jn_in, jn_add, jn_sub, jn_mul, jn_neg, li_0, li_1, li_2, li_3, li_4, li_5, li_6, li_7, li_8, li_9, li_10, li_11, li_12, li_13, li_14, li_15, li_16, li_17, li_18, li_20, li_24, li_29, li_30, li_31, li_32, li_37, li_39, li_40, li_42, li_43, li_45, li_46, li_47, li_48, li_53, li_57, li_59, li_60, li_61, li_62, li_63, li_80, li_81, li_91, li_93, li_97, li_100, li_122, li_200, li_255, li_256, li_257, li_258, li_259, li_260, li_300, li_314, li_400, li_580, li_999, li_5040, li_9999, li_65536, li_99999, li_7654321] at hc
        have e : p = m := by omega
        subst e
        rw [h1, Nat.sub_self]
        have := hQ le hle
        rw [show (rk p r : Int) - (rt p r 0 : Int) = (rk p r : Int) by show (rk p r : Int) - ((0 : Nat) : Int) = _; omega]
        exact this
      · simp (disch := omega) only [jn_le, jn_lt, jn_eq, jn_in, jn_add, jn_sub, jn_mul, jn_neg, li_0, li_1, li_2, li_3, li_4, li_5, li_6, li_7, li_8, li_9, li_10, li_11, li_12, li_13, li_14, li_15, li_16, li_17, li_18, li_20, li_24, li_29, li_30, li_31, li_32, li_37, li_39, li_40, li_42, li_43, li_45, li_46, li_47, li_48, li_53, li_57, li_59, li_60, li_61, li_62, li_63, li_80, li_81, li_91, li_93, li_97, li_100, li_122, li_200, li_255, li_256, li_257, li_258, li_259, li_260, li_300, li_314, li_400, li_580, li_999, li_5040, li_9999, li_65536, li_99999, li_7654321] at hc
        have hpm : p < m := by omega
        have hr := h.1 p hpm
        have hg := bs_lt7 (f := fun c => decide (iv r c m < p)) hm
        refine ⟨by simp (disch := omega) only [jn_le, jn_lt, jn_eq, jn_in, jn_add, jn_sub, jn_mul, jn_neg, li_0, li_1, li_2, li_3, li_4, li_5, li_6, li_7, li_8, li_9, li_10, li_11, li_12, li_13, li_14, li_15, li_16, li_17, li_18, li_20, li_24, li_29, li_30, li_31, li_32, li_37, li_39, li_40, li_42, li_43, li_45, li_46, li_47, li_48, li_53, li_57, li_59, li_60, li_61, li_62, li_63, li_80, li_81, li_91, li_93, li_97, li_100, li_122, li_200, li_255, li_256, li_257, li_258, li_259, li_260, li_300, li_314, li_400, li_580, li_999, li_5040, li_9999, li_65536, li_99999, li_7654321] <;> omega, fun x1 e1 => ?_⟩
        rw [jn_cln (by omega), hO p hpm] at e1
        subst e1
        have e2p : (1 : Int32) <<< (jn (r p : Int) &&& 31) = jn ((2 ^ r p : Nat) : Int) := jn_bit (by omega)
        have hpow : 0 < 2 ^ r p := Nat.two_pow_pos _
        have hand : v2 &&& ((1 : Int32) <<< (jn (r p : Int) &&& 31) - (1 : Int32)) = jn ((gn m r p &&& (2 ^ r p - 1) : Nat) : Int) := by
          rw [h2, e2p, show jn ((2 ^ r p : Nat) : Int) - (1 : Int32) = jn ((2 ^ r p - 1 : Nat) : Int) from by rw [li_1, jn_sub]; exact congrArg jn (by omega), jn_and]
        rw [hand]
        have hlt : gn m r p &&& (2 ^ r p - 1) < 128 := Nat.lt_of_le_of_lt Nat.and_le_left hg
        refine wl_bitCount hlt rfl ?_
        have hle2 := gn_less hm h hpm
        refine ⟨by simp (disch := omega) only [jn_le, jn_lt, jn_eq, jn_in, jn_add, jn_sub, jn_mul, jn_neg, li_0, li_1, li_2, li_3, li_4, li_5, li_6, li_7, li_8, li_9, li_10, li_11, li_12, li_13, li_14, li_15, li_16, li_17, li_18, li_20, li_24, li_29, li_30, li_31, li_32, li_37, li_39, li_40, li_42, li_43, li_45, li_46, li_47, li_48, li_53, li_57, li_59, li_60, li_61, li_62, li_63, li_80, li_81, li_91, li_93, li_97, li_100, li_122, li_200, li_255, li_256, li_257, li_258, li_259, li_260, li_300, li_314, li_400, li_580, li_999, li_5040, li_9999, li_65536, li_99999, li_7654321] <;> omega, fun a3 e3 x4 e4 => ⟨by simp (disch := omega) only [jn_le, jn_lt, jn_eq, jn_in, jn_add, jn_sub, jn_mul, jn_neg, li_0, li_1, li_2, li_3, li_4, li_5, li_6, li_7, li_8, li_9, li_10, li_11, li_12, li_13, li_14, li_15, li_16, li_17, li_18, li_20, li_24, li_29, li_30, li_31, li_32, li_37, li_39, li_40, li_42, li_43, li_45, li_46, li_47, li_48, li_53, li_57, li_59, li_60, li_61, li_62, li_63, li_80, li_81, li_91, li_93, li_97, li_100, li_122, li_200, li_255, li_256, li_257, li_258, li_259, li_260, li_300, li_314, li_400, li_580, li_999, li_5040, li_9999, li_65536, li_99999, li_7654321] <;> omega, ?_⟩⟩
        rw [jn_cln (by omega)] at e3
        refine wl_weight hm hpm rfl (fun x6 e6 => ?_)
        rw [jn_cln (by omega)] at e6
        have hl3 : a3 p = jn (ls m r p : Int) := by
          rw [e3, upd_at, jn_sub]; exact congrArg jn (by omega)
        have hrt : rt m r (m - p) = ls m r p * fc (m - 1 - p) + rt m r (m - (p + 1)) := by
          rw [show m - p = (m - (p + 1)) + 1 by omega, rt, show m - (m - (p + 1) + 1) = p by omega, show m - (p + 1) = m - 1 - p by omega]
        refine ih (p + 1) _ _ _ _ (by (first | rfl | (simp (disch := omega) only [jn_add, jn_sub, jn_mul, jn_neg, li_0, li_1, li_2, li_3, li_4, li_5, li_6, li_7, li_8, li_9, li_10, li_11, li_12, li_13, li_14, li_15, li_16, li_17, li_18, li_20, li_24, li_29, li_30, li_31, li_32, li_37, li_39, li_40, li_42, li_43, li_45, li_46, li_47, li_48, li_53, li_57, li_59, li_60, li_61, li_62, li_63, li_80, li_81, li_91, li_93, li_97, li_100, li_122, li_200, li_255, li_256, li_257, li_258, li_259, li_260, li_300, li_314, li_400, li_580, li_999, li_5040, li_9999, li_65536, li_99999, li_7654321] <;> first | rfl | exact congrArg jn (by omega)) | exact congrArg jn (by omega))) (by omega) ?_ ?_ (fun q hq => ?_) (by omega)
        · rw [e6, hl3, h1, jn_mul, jn_add]
          refine congrArg jn ?_
          rw [hrt, Int.natCast_add, Int.natCast_mul]; omega
        · rw [e4, h2, e2p, jn_or, gn_succ h hpm]
        · by_cases e : q = p
          · rw [e]; exact hl3
          · rw [e3, upd_ne e]; exact hle q (by omega)
  refine key N 0 _ _ _ le rfl (by omega) ?_ ?_ (fun q hq => by omega) (by omega)
  · rw [li_0]
    refine congrArg jn ?_
    show (0 : Int) = (rk m r : Int) - (rk m r : Int); omega
  · have : gn m r 0 = 0 := by
      unfold gn
      refine (bs_is (fun c => ?_)).symm
      rw [Nat.zero_testBit, decide_eq_false (show ¬ iv r c m < 0 by omega), Bool.and_false]
    rw [this]; rfl
/-- whom a child can leap, as a set -/
def lb (m : Nat) (cl : Nat → Nat → Bool) (c : Nat) : Nat := bs (cl c) m
theorem wl_leapableBy {k c : Nat} {Q : Int32 → Prop} {x : Int32} {lp bk : Nat → Int32} {LP BK : Nat → Nat} (hN : 10 ≤ N) (hm : m ≤ 7) (hc : c < m) (hx : x = jn c) (hL : ar m lp LP) (hB : ar m bk BK) (hLb : LP c ≤ 9999) (hBb : ∀ d, d < m → BK d ≤ 9999) (h : Q (jn (lb m (fun c d => decide (BK d ≤ LP c)) c : Int))) : wp_X5_leapableBy N (jn m) lp bk Q x := by
  unfold wp_X5_leapableBy
  have key : ∀ (n i : Nat) (v3 v4 : Int32), v4 = jn i → i ≤ m → v3 = jn (bs (fun d => decide (BK d ≤ LP c)) i : Int) → m < n + i → wp_X5_leapableBy_5 N (jn m) lp bk Q n x v3 v4 := by
    intro n
    induction n with
    | zero => intro i v3 v4 _ h1 _ h2; omega
    | succ n ih =>
      intro i v3 v4 h4 hi h3 hn
      unfold wp_X5_leapableBy_5 wp_X5_leapableBy_39
      subst h4
      refine ⟨fun hz => ?_, fun hz => ?_⟩
      · simp (disch := omega) only [jn_le, jn_lt, jn_eq, jn_in, jn_add, jn_sub, jn_mul, jn_neg, li_0, li_1, li_2, li_3, li_4, li_5, li_6, li_7, li_8, li_9, li_10, li_11, li_12, li_13, li_14, li_15, li_16, li_17, li_18, li_20, li_24, li_29, li_30, li_31, li_32, li_37, li_39, li_40, li_42, li_43, li_45, li_46, li_47, li_48, li_53, li_57, li_59, li_60, li_61, li_62, li_63, li_80, li_81, li_91, li_93, li_97, li_100, li_122, li_200, li_255, li_256, li_257, li_258, li_259, li_260, li_300, li_314, li_400, li_580, li_999, li_5040, li_9999, li_65536, li_99999, li_7654321] at hz
        have e : i = m := by omega
        subst e
        rw [h3]; exact h
      · simp (disch := omega) only [jn_le, jn_lt, jn_eq, jn_in, jn_add, jn_sub, jn_mul, jn_neg, li_0, li_1, li_2, li_3, li_4, li_5, li_6, li_7, li_8, li_9, li_10, li_11, li_12, li_13, li_14, li_15, li_16, li_17, li_18, li_20, li_24, li_29, li_30, li_31, li_32, li_37, li_39, li_40, li_42, li_43, li_45, li_46, li_47, li_48, li_53, li_57, li_59, li_60, li_61, li_62, li_63, li_80, li_81, li_91, li_93, li_97, li_100, li_122, li_200, li_255, li_256, li_257, li_258, li_259, li_260, li_300, li_314, li_400, li_580, li_999, li_5040, li_9999, li_65536, li_99999, li_7654321] at hz
        have him : i < m := by omega
        have hb := hBb i him
        refine ⟨by simp (disch := omega) only [jn_le, jn_lt, jn_eq, jn_in, jn_add, jn_sub, jn_mul, jn_neg, li_0, li_1, li_2, li_3, li_4, li_5, li_6, li_7, li_8, li_9, li_10, li_11, li_12, li_13, li_14, li_15, li_16, li_17, li_18, li_20, li_24, li_29, li_30, li_31, li_32, li_37, li_39, li_40, li_42, li_43, li_45, li_46, li_47, li_48, li_53, li_57, li_59, li_60, li_61, li_62, li_63, li_80, li_81, li_91, li_93, li_97, li_100, li_122, li_200, li_255, li_256, li_257, li_258, li_259, li_260, li_300, li_314, li_400, li_580, li_999, li_5040, li_9999, li_65536, li_99999, li_7654321] <;> omega, by rw [hx]; exact by simp (disch := omega) only [jn_le, jn_lt, jn_eq, jn_in, jn_add, jn_sub, jn_mul, jn_neg, li_0, li_1, li_2, li_3, li_4, li_5, li_6, li_7, li_8, li_9, li_10, li_11, li_12, li_13, li_14, li_15, li_16, li_17, li_18, li_20, li_24, li_29, li_30, li_31, li_32, li_37, li_39, li_40, li_42, li_43, li_45, li_46, li_47, li_48, li_53, li_57, li_59, li_60, li_61, li_62, li_63, li_80, li_81, li_91, li_93, li_97, li_100, li_122, li_200, li_255, li_256, li_257, li_258, li_259, li_260, li_300, li_314, li_400, li_580, li_999, li_5040, li_9999, li_65536, li_99999, li_7654321] <;> omega, ?_⟩
        rw [hx, jn_cln (by omega), jn_cln (by omega), hL c hc, hB i him, jn_lt (by omega) (by omega)]
        rw [hx] at ih
        refine ⟨fun z x1 e1 => ?_, fun z x1 e1 => ?_⟩
        · refine ih (i + 1) _ _ (by (first | rfl | (simp (disch := omega) only [jn_add, jn_sub, jn_mul, jn_neg, li_0, li_1, li_2, li_3, li_4, li_5, li_6, li_7, li_8, li_9, li_10, li_11, li_12, li_13, li_14, li_15, li_16, li_17, li_18, li_20, li_24, li_29, li_30, li_31, li_32, li_37, li_39, li_40, li_42, li_43, li_45, li_46, li_47, li_48, li_53, li_57, li_59, li_60, li_61, li_62, li_63, li_80, li_81, li_91, li_93, li_97, li_100, li_122, li_200, li_255, li_256, li_257, li_258, li_259, li_260, li_300, li_314, li_400, li_580, li_999, li_5040, li_9999, li_65536, li_99999, li_7654321] <;> first | rfl | exact congrArg jn (by omega)) | exact congrArg jn (by omega))) (by omega) ?_ (by omega)
          rw [e1, h3, bs, if_neg (by simp only [decide_eq_true_eq]; omega), show (0 : Int32) = jn ((0 : Nat) : Int) from rfl, jn_or]
        · refine ih (i + 1) _ _ (by (first | rfl | (simp (disch := omega) only [jn_add, jn_sub, jn_mul, jn_neg, li_0, li_1, li_2, li_3, li_4, li_5, li_6, li_7, li_8, li_9, li_10, li_11, li_12, li_13, li_14, li_15, li_16, li_17, li_18, li_20, li_24, li_29, li_30, li_31, li_32, li_37, li_39, li_40, li_42, li_43, li_45, li_46, li_47, li_48, li_53, li_57, li_59, li_60, li_61, li_62, li_63, li_80, li_81, li_91, li_93, li_97, li_100, li_122, li_200, li_255, li_256, li_257, li_258, li_259, li_260, li_300, li_314, li_400, li_580, li_999, li_5040, li_9999, li_65536, li_99999, li_7654321] <;> first | rfl | exact congrArg jn (by omega)) | exact congrArg jn (by omega))) (by omega) ?_ (by omega)
          rw [e1, h3, bs, if_pos (by simp only [decide_eq_true_eq]; omega), jn_bit (by omega), jn_or]
  exact key N 0 _ _ rfl (by omega) rfl (by omega)
end CRK
