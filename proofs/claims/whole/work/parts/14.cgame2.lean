/-! the class's Game, second part: who can, marks, what changes -/
theorem wl_whoCan {N k : Nat} {od bk lv br : Nat → Int32} {O B L BR : Nat → Nat} {Q : Int32 → Prop} (hk : k ≤ 7) (hN : 10 ≤ N) (hO : ar k od O) (hB : ar k bk B) (hL : ar k lv L) (hR : ar k br BR) (hP : Pm k O) (bB : ∀ c, B c ≤ 20) (bL : ∀ c, L c ≤ 20) (bR : ∀ c, BR c ≤ 60) (h : Q (jn (bs (fun c => canb O B L BR (iv O c k)) k))) : wp_X0_whoCan N od bk br (jn k) lv Q := by
  have key : ∀ (n i : Nat) (s v : Int32) (x : Nat), v = jn i → s = jn x → (∀ c, x.testBit c = (decide (c < k ∧ iv O c k < i) && canb O B L BR (iv O c k))) → i ≤ k → k < n + i → wp_X0_whoCan_4 N od bk br (jn k) lv Q n s v := by
    intro n
    induction n with
    | zero => intro i s v x _ _ _ h1 h2; omega
    | succ n ih =>
      intro i s v x hv hs hx h1 h2
      unfold wp_X0_whoCan_4
      subst hv hs
      refine ⟨fun hc => ?_, fun hc => ?_⟩
      · simp (disch := omega) only [jn_le, jn_lt, jn_eq, jn_in, jn_add, jn_sub, jn_mul, jn_neg, li_0, li_1, li_2, li_3, li_4, li_5, li_6, li_7, li_8, li_9, li_10, li_11, li_12, li_13, li_14, li_15, li_16, li_17, li_18, li_20, li_24, li_29, li_30, li_31, li_32, li_37, li_39, li_40, li_42, li_43, li_45, li_46, li_47, li_48, li_53, li_57, li_59, li_60, li_61, li_62, li_63, li_80, li_81, li_91, li_93, li_97, li_100, li_122, li_200, li_255, li_256, li_257, li_258, li_259, li_260, li_300, li_314, li_400, li_580, li_999, li_5040, li_9999, li_65536, li_99999, li_7654321] at hc
        have e : x = bs (fun c => canb O B L BR (iv O c k)) k := by
          refine bs_is (fun c => ?_)
          rw [hx c]
          congr 1
          refine decide_eq_decide.mpr ⟨fun q => q.1, fun q => ⟨q, ?_⟩⟩
          have := iv_lt hP q
          omega
        rw [e]; exact h
      · simp (disch := omega) only [jn_le, jn_lt, jn_eq, jn_in, jn_add, jn_sub, jn_mul, jn_neg, li_0, li_1, li_2, li_3, li_4, li_5, li_6, li_7, li_8, li_9, li_10, li_11, li_12, li_13, li_14, li_15, li_16, li_17, li_18, li_20, li_24, li_29, li_30, li_31, li_32, li_37, li_39, li_40, li_42, li_43, li_45, li_46, li_47, li_48, li_53, li_57, li_59, li_60, li_61, li_62, li_63, li_80, li_81, li_91, li_93, li_97, li_100, li_122, li_200, li_255, li_256, li_257, li_258, li_259, li_260, li_300, li_314, li_400, li_580, li_999, li_5040, li_9999, li_65536, li_99999, li_7654321] at hc
        have hi := hP.1 i (by omega)
        refine wl_canFrom hk hO hB hL hR hP bB bL bR (show i < k by omega) rfl ?_
        unfold wp_X0_whoCan_34
        have hiv := iv_eq hP (show i < k by omega)
        refine ⟨fun he y hy => ?_, fun he => ⟨by simp (disch := omega) only [jn_le, jn_lt, jn_eq, jn_in, jn_add, jn_sub, jn_mul, jn_neg, li_0, li_1, li_2, li_3, li_4, li_5, li_6, li_7, li_8, li_9, li_10, li_11, li_12, li_13, li_14, li_15, li_16, li_17, li_18, li_20, li_24, li_29, li_30, li_31, li_32, li_37, li_39, li_40, li_42, li_43, li_45, li_46, li_47, li_48, li_53, li_57, li_59, li_60, li_61, li_62, li_63, li_80, li_81, li_91, li_93, li_97, li_100, li_122, li_200, li_255, li_256, li_257, li_258, li_259, li_260, li_300, li_314, li_400, li_580, li_999, li_5040, li_9999, li_65536, li_99999, li_7654321] <;> omega, fun y hy => ?_⟩⟩
        · have hf : canb O B L BR i = false := by
            cases hb : canb O B L BR i with
            | false => rfl
            | true => rw [hb] at he; exact absurd he (by decide)
          refine ih (i + 1) _ _ x (by (first | rfl | (simp (disch := omega) only [jn_add, jn_sub, jn_mul, jn_neg, li_0, li_1, li_2, li_3, li_4, li_5, li_6, li_7, li_8, li_9, li_10, li_11, li_12, li_13, li_14, li_15, li_16, li_17, li_18, li_20, li_24, li_29, li_30, li_31, li_32, li_37, li_39, li_40, li_42, li_43, li_45, li_46, li_47, li_48, li_53, li_57, li_59, li_60, li_61, li_62, li_63, li_80, li_81, li_91, li_93, li_97, li_100, li_122, li_200, li_255, li_256, li_257, li_258, li_259, li_260, li_300, li_314, li_400, li_580, li_999, li_5040, li_9999, li_65536, li_99999, li_7654321] <;> first | rfl | exact congrArg jn (by omega)) | exact congrArg jn (by omega))) (by rw [hy, Int32.or_zero]) (fun c => ?_) (by omega) (by omega)
          rw [hx c]
          by_cases e : iv O c k = i
          · rw [e, hf, Bool.and_false, Bool.and_false]
          · congr 1; exact decide_eq_decide.mpr (by omega)
        · have hf : canb O B L BR i = true := by
            cases hb : canb O B L BR i with
            | true => rfl
            | false => rw [hb] at he; exact absurd rfl he
          rw [jn_cln (by omega), hO i (by omega), jn_bit (by omega), jn_or] at hy
          refine ih (i + 1) _ _ _ (by (first | rfl | (simp (disch := omega) only [jn_add, jn_sub, jn_mul, jn_neg, li_0, li_1, li_2, li_3, li_4, li_5, li_6, li_7, li_8, li_9, li_10, li_11, li_12, li_13, li_14, li_15, li_16, li_17, li_18, li_20, li_24, li_29, li_30, li_31, li_32, li_37, li_39, li_40, li_42, li_43, li_45, li_46, li_47, li_48, li_53, li_57, li_59, li_60, li_61, li_62, li_63, li_80, li_81, li_91, li_93, li_97, li_100, li_122, li_200, li_255, li_256, li_257, li_258, li_259, li_260, li_300, li_314, li_400, li_580, li_999, li_5040, li_9999, li_65536, li_99999, li_7654321] <;> first | rfl | exact congrArg jn (by omega)) | exact congrArg jn (by omega))) hy (fun c => ?_) (by omega) (by omega)
          rw [Nat.testBit_or, hx c]
          by_cases e : c = O i
          · subst e
            rw [hiv, hf, Nat.testBit_two_pow_self, Bool.or_true, Bool.and_true]
            exact (decide_eq_true (by omega)).symm
          · rw [Nat.testBit_two_pow_of_ne (fun q => e q.symm), Bool.or_false]
            congr 1
            refine decide_eq_decide.mpr ⟨fun q => ⟨q.1, by omega⟩, fun q => ⟨q.1, ?_⟩⟩
            by_cases e2 : iv O c k = i
            · exact absurd (by rw [← iv_at hP q.1, e2]) e
            · omega
  exact key N 0 _ _ 0 rfl rfl (fun c => by rw [Nat.zero_testBit]; simp) (by omega) (by omega)
theorem wl_moveAhead {N k p b : Nat} {od : Nat → Int32} {O : Nat → Nat} {Q : (Nat → Int32) → Prop} {x y : Int32} (hk : k ≤ 7) (hN : 10 ≤ N) (hO : ar k od O) (hp : p < k) (hb : b ≤ p) (hx : x = jn p) (hy : y = jn b) (h : ∀ m, ar k m (mv O p b) → Q m) : wp_X0_moveAhead N Q x y od := by
  subst hx hy
  have key : ∀ (n j : Nat) (v : Int32) (o : Nat → Int32), v = jn j → j ≤ b → ar k o (fun q => if p - j < q ∧ q ≤ p then O (q - 1) else O q) → b < n + j → wp_X0_moveAhead_10 N Q n (jn p) (jn b) (jn (O p)) v o := by
    intro n
    induction n with
    | zero => intro j v o _ h1 _ h2; omega
    | succ n ih =>
      intro j v o hv h1 ho h2
      unfold wp_X0_moveAhead_10
      subst hv
      refine ⟨fun hc => ?_, fun hc => ?_⟩
      · simp (disch := omega) only [jn_le, jn_lt, jn_eq, jn_in, jn_add, jn_sub, jn_mul, jn_neg, li_0, li_1, li_2, li_3, li_4, li_5, li_6, li_7, li_8, li_9, li_10, li_11, li_12, li_13, li_14, li_15, li_16, li_17, li_18, li_20, li_24, li_29, li_30, li_31, li_32, li_37, li_39, li_40, li_42, li_43, li_45, li_46, li_47, li_48, li_53, li_57, li_59, li_60, li_61, li_62, li_63, li_80, li_81, li_91, li_93, li_97, li_100, li_122, li_200, li_255, li_256, li_257, li_258, li_259, li_260, li_300, li_314, li_400, li_580, li_999, li_5040, li_9999, li_65536, li_99999, li_7654321] at hc
        have e : j = b := by omega
        subst e
        have e1 : (jn (p : Int) - jn (j : Int)).toNatClampNeg = p - j := by rw [jn_sub]; exact jn_at (by omega) (by omega)
        rw [e1]
        refine ⟨by simp (disch := omega) only [jn_le, jn_lt, jn_eq, jn_in, jn_add, jn_sub, jn_mul, jn_neg, li_0, li_1, li_2, li_3, li_4, li_5, li_6, li_7, li_8, li_9, li_10, li_11, li_12, li_13, li_14, li_15, li_16, li_17, li_18, li_20, li_24, li_29, li_30, li_31, li_32, li_37, li_39, li_40, li_42, li_43, li_45, li_46, li_47, li_48, li_53, li_57, li_59, li_60, li_61, li_62, li_63, li_80, li_81, li_91, li_93, li_97, li_100, li_122, li_200, li_255, li_256, li_257, li_258, li_259, li_260, li_300, li_314, li_400, li_580, li_999, li_5040, li_9999, li_65536, li_99999, li_7654321] <;> omega, fun a ha => h a ?_⟩
        intro q hq
        rw [ha]
        unfold mv
        by_cases e : q = p - j
        · rw [e, upd_at, if_pos rfl]
        · rw [upd_ne e, if_neg e]; exact ho q hq
      · simp (disch := omega) only [jn_le, jn_lt, jn_eq, jn_in, jn_add, jn_sub, jn_mul, jn_neg, li_0, li_1, li_2, li_3, li_4, li_5, li_6, li_7, li_8, li_9, li_10, li_11, li_12, li_13, li_14, li_15, li_16, li_17, li_18, li_20, li_24, li_29, li_30, li_31, li_32, li_37, li_39, li_40, li_42, li_43, li_45, li_46, li_47, li_48, li_53, li_57, li_59, li_60, li_61, li_62, li_63, li_80, li_81, li_91, li_93, li_97, li_100, li_122, li_200, li_255, li_256, li_257, li_258, li_259, li_260, li_300, li_314, li_400, li_580, li_999, li_5040, li_9999, li_65536, li_99999, li_7654321] at hc
        have e1 : (jn (p : Int) - jn (j : Int)).toNatClampNeg = p - j := by rw [jn_sub]; exact jn_at (by omega) (by omega)
        have e2 : (jn (p : Int) - jn (j : Int) - (1 : Int32)).toNatClampNeg = p - j - 1 := by rw [li_1, jn_sub, jn_sub]; exact jn_at (by omega) (by omega)
        rw [e1, e2]
        refine ⟨by simp (disch := omega) only [jn_le, jn_lt, jn_eq, jn_in, jn_add, jn_sub, jn_mul, jn_neg, li_0, li_1, li_2, li_3, li_4, li_5, li_6, li_7, li_8, li_9, li_10, li_11, li_12, li_13, li_14, li_15, li_16, li_17, li_18, li_20, li_24, li_29, li_30, li_31, li_32, li_37, li_39, li_40, li_42, li_43, li_45, li_46, li_47, li_48, li_53, li_57, li_59, li_60, li_61, li_62, li_63, li_80, li_81, li_91, li_93, li_97, li_100, li_122, li_200, li_255, li_256, li_257, li_258, li_259, li_260, li_300, li_314, li_400, li_580, li_999, li_5040, li_9999, li_65536, li_99999, li_7654321] <;> omega, by simp (disch := omega) only [jn_le, jn_lt, jn_eq, jn_in, jn_add, jn_sub, jn_mul, jn_neg, li_0, li_1, li_2, li_3, li_4, li_5, li_6, li_7, li_8, li_9, li_10, li_11, li_12, li_13, li_14, li_15, li_16, li_17, li_18, li_20, li_24, li_29, li_30, li_31, li_32, li_37, li_39, li_40, li_42, li_43, li_45, li_46, li_47, li_48, li_53, li_57, li_59, li_60, li_61, li_62, li_63, li_80, li_81, li_91, li_93, li_97, li_100, li_122, li_200, li_255, li_256, li_257, li_258, li_259, li_260, li_300, li_314, li_400, li_580, li_999, li_5040, li_9999, li_65536, li_99999, li_7654321] <;> omega, fun a ha => ?_⟩
        refine ih (j + 1) _ a (by (first | rfl | (simp (disch := omega) only [jn_add, jn_sub, jn_mul, jn_neg, li_0, li_1, li_2, li_3, li_4, li_5, li_6, li_7, li_8, li_9, li_10, li_11, li_12, li_13, li_14, li_15, li_16, li_17, li_18, li_20, li_24, li_29, li_30, li_31, li_32, li_37, li_39, li_40, li_42, li_43, li_45, li_46, li_47, li_48, li_53, li_57, li_59, li_60, li_61, li_62, li_63, li_80, li_81, li_91, li_93, li_97, li_100, li_122, li_200, li_255, li_256, li_257, li_258, li_259, li_260, li_300, li_314, li_400, li_580, li_999, li_5040, li_9999, li_65536, li_99999, li_7654321] <;> first | rfl | exact congrArg jn (by omega)) | exact congrArg jn (by omega))) (by omega) ?_ (by omega)
        intro q hq
        rw [ha]
        by_cases e : q = p - j
        · rw [e, upd_at, ho _ (by omega)]
          dsimp only
          rw [if_neg (by omega), if_pos (by omega)]
        · rw [upd_ne e, ho q hq]
          dsimp only
          by_cases e3 : p - j < q ∧ q ≤ p
          · rw [if_pos e3, if_pos (by omega)]
          · rw [if_neg e3, if_neg (by omega)]
  unfold wp_X0_moveAhead
  refine ⟨by simp (disch := omega) only [jn_le, jn_lt, jn_eq, jn_in, jn_add, jn_sub, jn_mul, jn_neg, li_0, li_1, li_2, li_3, li_4, li_5, li_6, li_7, li_8, li_9, li_10, li_11, li_12, li_13, li_14, li_15, li_16, li_17, li_18, li_20, li_24, li_29, li_30, li_31, li_32, li_37, li_39, li_40, li_42, li_43, li_45, li_46, li_47, li_48, li_53, li_57, li_59, li_60, li_61, li_62, li_63, li_80, li_81, li_91, li_93, li_97, li_100, li_122, li_200, li_255, li_256, li_257, li_258, li_259, li_260, li_300, li_314, li_400, li_580, li_999, li_5040, li_9999, li_65536, li_99999, li_7654321] <;> omega, fun z hz => ?_⟩
  rw [hz, jn_cln (by omega), hO p hp]
  refine key N 0 _ od rfl (by omega) (fun q hq => ?_) (by omega)
  dsimp only
  rw [if_neg (by omega)]; exact hO q hq
theorem wl_leapFrom {N k p b : Nat} {od br lp : Nat → Int32} {O BR LP : Nat → Nat} {Q : (Nat → Int32) → (Nat → Int32) → (Nat → Int32) → Prop} {x y : Int32} (hk : k ≤ 7) (hN : 10 ≤ N) (hO : ar k od O) (hR : ar k br BR) (hL : ar k lp LP) (hP : Pm k O) (bL : ∀ c, LP c ≤ 999) (hp : p < k) (hb : b ≤ p) (h0 : 0 < BR (O p)) (hx : x = jn p) (hy : y = jn b) (h : ∀ m r l, ar k m (mv O p b) → ar k r (un BR (O p) (BR (O p) - 1)) → ar k l (un LP (O p) (min 999 (LP (O p) + b))) → Q m r l) : wp_X0_leapFrom N Q x y od br lp := by
  have hc := hP.1 p hp
  have b1 := bL (O p)
  unfold wp_X0_leapFrom
  refine ⟨by subst hx; exact by simp (disch := omega) only [jn_le, jn_lt, jn_eq, jn_in, jn_add, jn_sub, jn_mul, jn_neg, li_0, li_1, li_2, li_3, li_4, li_5, li_6, li_7, li_8, li_9, li_10, li_11, li_12, li_13, li_14, li_15, li_16, li_17, li_18, li_20, li_24, li_29, li_30, li_31, li_32, li_37, li_39, li_40, li_42, li_43, li_45, li_46, li_47, li_48, li_53, li_57, li_59, li_60, li_61, li_62, li_63, li_80, li_81, li_91, li_93, li_97, li_100, li_122, li_200, li_255, li_256, li_257, li_258, li_259, li_260, li_300, li_314, li_400, li_580, li_999, li_5040, li_9999, li_65536, li_99999, li_7654321] <;> omega, fun z hz => ?_⟩
  rw [hx, jn_cln (by omega), hO p hp] at hz
  subst hz
  refine wl_moveAhead hk hN hO hp hb hx hy (fun m hm => ?_)
  rw [jn_cln (by omega), hL _ hc, hR _ hc]
  refine ⟨by simp (disch := omega) only [jn_le, jn_lt, jn_eq, jn_in, jn_add, jn_sub, jn_mul, jn_neg, li_0, li_1, li_2, li_3, li_4, li_5, li_6, li_7, li_8, li_9, li_10, li_11, li_12, li_13, li_14, li_15, li_16, li_17, li_18, li_20, li_24, li_29, li_30, li_31, li_32, li_37, li_39, li_40, li_42, li_43, li_45, li_46, li_47, li_48, li_53, li_57, li_59, li_60, li_61, li_62, li_63, li_80, li_81, li_91, li_93, li_97, li_100, li_122, li_200, li_255, li_256, li_257, li_258, li_259, li_260, li_300, li_314, li_400, li_580, li_999, li_5040, li_9999, li_65536, li_99999, li_7654321] <;> omega, ?_⟩
  refine wl_min (a := 999) (b := LP (O p) + b) rfl (by rw [hy, jn_add]; exact congrArg jn (by omega)) (by omega) (by omega) ?_
  refine ⟨by simp (disch := omega) only [jn_le, jn_lt, jn_eq, jn_in, jn_add, jn_sub, jn_mul, jn_neg, li_0, li_1, li_2, li_3, li_4, li_5, li_6, li_7, li_8, li_9, li_10, li_11, li_12, li_13, li_14, li_15, li_16, li_17, li_18, li_20, li_24, li_29, li_30, li_31, li_32, li_37, li_39, li_40, li_42, li_43, li_45, li_46, li_47, li_48, li_53, li_57, li_59, li_60, li_61, li_62, li_63, li_80, li_81, li_91, li_93, li_97, li_100, li_122, li_200, li_255, li_256, li_257, li_258, li_259, li_260, li_300, li_314, li_400, li_580, li_999, li_5040, li_9999, li_65536, li_99999, li_7654321] <;> omega, fun a4 h4 => ⟨by simp (disch := omega) only [jn_le, jn_lt, jn_eq, jn_in, jn_add, jn_sub, jn_mul, jn_neg, li_0, li_1, li_2, li_3, li_4, li_5, li_6, li_7, li_8, li_9, li_10, li_11, li_12, li_13, li_14, li_15, li_16, li_17, li_18, li_20, li_24, li_29, li_30, li_31, li_32, li_37, li_39, li_40, li_42, li_43, li_45, li_46, li_47, li_48, li_53, li_57, li_59, li_60, li_61, li_62, li_63, li_80, li_81, li_91, li_93, li_97, li_100, li_122, li_200, li_255, li_256, li_257, li_258, li_259, li_260, li_300, li_314, li_400, li_580, li_999, li_5040, li_9999, li_65536, li_99999, li_7654321] <;> omega, by simp (disch := omega) only [jn_le, jn_lt, jn_eq, jn_in, jn_add, jn_sub, jn_mul, jn_neg, li_0, li_1, li_2, li_3, li_4, li_5, li_6, li_7, li_8, li_9, li_10, li_11, li_12, li_13, li_14, li_15, li_16, li_17, li_18, li_20, li_24, li_29, li_30, li_31, li_32, li_37, li_39, li_40, li_42, li_43, li_45, li_46, li_47, li_48, li_53, li_57, li_59, li_60, li_61, li_62, li_63, li_80, li_81, li_91, li_93, li_97, li_100, li_122, li_200, li_255, li_256, li_257, li_258, li_259, li_260, li_300, li_314, li_400, li_580, li_999, li_5040, li_9999, li_65536, li_99999, li_7654321] <;> omega, fun a5 h5 => ?_⟩⟩
  refine h m a5 a4 hm ?_ ?_
  · rw [h5]; exact ar_upd hR (by rw [li_1, jn_sub]; exact congrArg jn (by omega))
  · rw [h4]; exact ar_upd hL rfl
theorem wl_giveBreath {N k c b : Nat} {br : Nat → Int32} {BR : Nat → Nat} {Q : (Nat → Int32) → Prop} {x y : Int32} (hk : k ≤ 7) (hR : ar k br BR) (hc : c < k) (hb : b ≤ 9) (b1 : BR c ≤ 60) (hx : x = jn c) (hy : y = jn b) (h : ∀ r, ar k r (un BR c (min 60 (BR c + b))) → Q r) : wp_X0_giveBreath N Q x y br := by
  unfold wp_X0_giveBreath
  subst hx
  refine ⟨by simp (disch := omega) only [jn_le, jn_lt, jn_eq, jn_in, jn_add, jn_sub, jn_mul, jn_neg, li_0, li_1, li_2, li_3, li_4, li_5, li_6, li_7, li_8, li_9, li_10, li_11, li_12, li_13, li_14, li_15, li_16, li_17, li_18, li_20, li_24, li_29, li_30, li_31, li_32, li_37, li_39, li_40, li_42, li_43, li_45, li_46, li_47, li_48, li_53, li_57, li_59, li_60, li_61, li_62, li_63, li_80, li_81, li_91, li_93, li_97, li_100, li_122, li_200, li_255, li_256, li_257, li_258, li_259, li_260, li_300, li_314, li_400, li_580, li_999, li_5040, li_9999, li_65536, li_99999, li_7654321] <;> omega, ?_⟩
  rw [jn_cln (by omega), hR _ hc]
  refine wl_min (a := 60) (b := BR c + b) rfl (by rw [hy, jn_add]; exact congrArg jn (by omega)) (by omega) (by omega) ?_
  refine ⟨by simp (disch := omega) only [jn_le, jn_lt, jn_eq, jn_in, jn_add, jn_sub, jn_mul, jn_neg, li_0, li_1, li_2, li_3, li_4, li_5, li_6, li_7, li_8, li_9, li_10, li_11, li_12, li_13, li_14, li_15, li_16, li_17, li_18, li_20, li_24, li_29, li_30, li_31, li_32, li_37, li_39, li_40, li_42, li_43, li_45, li_46, li_47, li_48, li_53, li_57, li_59, li_60, li_61, li_62, li_63, li_80, li_81, li_91, li_93, li_97, li_100, li_122, li_200, li_255, li_256, li_257, li_258, li_259, li_260, li_300, li_314, li_400, li_580, li_999, li_5040, li_9999, li_65536, li_99999, li_7654321] <;> omega, fun a4 h4 => h a4 ?_⟩
  rw [h4]; exact ar_upd hR rfl
/-- all but one get breath -/
def rst (BR TB : Nat → Nat) (w : Int) : Nat → Nat := fun c => if (c : Int) ≠ w ∧ BR c < TB c then BR c + 1 else BR c
theorem wl_restAllBut {N k : Nat} {br tb : Nat → Int32} {BR TB : Nat → Nat} {Q : (Nat → Int32) → Prop} {x : Int32} {w : Int} (hk : k ≤ 7) (hN : 10 ≤ N) (hR : ar k br BR) (hT : ar k tb TB) (bR : ∀ c, BR c ≤ 60) (bT : ∀ c, TB c ≤ 30) (hx : x = jn w) (hw : -2 ≤ w ∧ w < 7) (h : ∀ r, ar k r (rst BR TB w) → Q r) : wp_X0_restAllBut N (jn k) tb Q x br := by
  subst hx
  have key : ∀ (n i : Nat) (v : Int32) (r : Nat → Int32), v = jn i → i ≤ k → ar k r (fun c => if c < i then rst BR TB w c else BR c) → k < n + i → wp_X0_restAllBut_2 N (jn k) tb Q n (jn w) v r := by
    intro n
    induction n with
    | zero => intro i v r _ h1 _ h2; omega
    | succ n ih =>
      intro i v r hv h1 hr h2
      unfold wp_X0_restAllBut_2
      subst hv
      refine ⟨fun hc => ?_, fun hc => ?_⟩
      · simp (disch := omega) only [jn_le, jn_lt, jn_eq, jn_in, jn_add, jn_sub, jn_mul, jn_neg, li_0, li_1, li_2, li_3, li_4, li_5, li_6, li_7, li_8, li_9, li_10, li_11, li_12, li_13, li_14, li_15, li_16, li_17, li_18, li_20, li_24, li_29, li_30, li_31, li_32, li_37, li_39, li_40, li_42, li_43, li_45, li_46, li_47, li_48, li_53, li_57, li_59, li_60, li_61, li_62, li_63, li_80, li_81, li_91, li_93, li_97, li_100, li_122, li_200, li_255, li_256, li_257, li_258, li_259, li_260, li_300, li_314, li_400, li_580, li_999, li_5040, li_9999, li_65536, li_99999, li_7654321] at hc
        refine h r (fun c hc => ?_)
        rw [hr c hc]; dsimp only
        rw [if_pos (by omega)]
      · simp (disch := omega) only [jn_le, jn_lt, jn_eq, jn_in, jn_add, jn_sub, jn_mul, jn_neg, li_0, li_1, li_2, li_3, li_4, li_5, li_6, li_7, li_8, li_9, li_10, li_11, li_12, li_13, li_14, li_15, li_16, li_17, li_18, li_20, li_24, li_29, li_30, li_31, li_32, li_37, li_39, li_40, li_42, li_43, li_45, li_46, li_47, li_48, li_53, li_57, li_59, li_60, li_61, li_62, li_63, li_80, li_81, li_91, li_93, li_97, li_100, li_122, li_200, li_255, li_256, li_257, li_258, li_259, li_260, li_300, li_314, li_400, li_580, li_999, li_5040, li_9999, li_65536, li_99999, li_7654321] at hc
        have b1 := bR i
        have b2 := bT i
        have e0 := hr i (by omega)
        dsimp only at e0
        rw [if_neg (by omega)] at e0
        unfold wp_X0_restAllBut_40
        have stay : ¬ ((i : Int) ≠ w ∧ BR i < TB i) → wp_X0_restAllBut_2 N (jn k) tb Q n (jn w) (jn i + 1) r := by
          intro q
          refine ih (i + 1) _ r (by (first | rfl | (simp (disch := omega) only [jn_add, jn_sub, jn_mul, jn_neg, li_0, li_1, li_2, li_3, li_4, li_5, li_6, li_7, li_8, li_9, li_10, li_11, li_12, li_13, li_14, li_15, li_16, li_17, li_18, li_20, li_24, li_29, li_30, li_31, li_32, li_37, li_39, li_40, li_42, li_43, li_45, li_46, li_47, li_48, li_53, li_57, li_59, li_60, li_61, li_62, li_63, li_80, li_81, li_91, li_93, li_97, li_100, li_122, li_200, li_255, li_256, li_257, li_258, li_259, li_260, li_300, li_314, li_400, li_580, li_999, li_5040, li_9999, li_65536, li_99999, li_7654321] <;> first | rfl | exact congrArg jn (by omega)) | exact congrArg jn (by omega))) (by omega) (fun c hc => ?_) (by omega)
          rw [hr c hc]; dsimp only
          by_cases e : c = i
          · subst e
            rw [if_neg (by omega), if_pos (by omega)]; unfold rst; rw [if_neg q]
          · by_cases e2 : c < i
            · rw [if_pos e2, if_pos (by omega)]
            · rw [if_neg e2, if_neg (by omega)]
        refine ⟨fun hd => ?_, fun hd => ⟨by simp (disch := omega) only [jn_le, jn_lt, jn_eq, jn_in, jn_add, jn_sub, jn_mul, jn_neg, li_0, li_1, li_2, li_3, li_4, li_5, li_6, li_7, li_8, li_9, li_10, li_11, li_12, li_13, li_14, li_15, li_16, li_17, li_18, li_20, li_24, li_29, li_30, li_31, li_32, li_37, li_39, li_40, li_42, li_43, li_45, li_46, li_47, li_48, li_53, li_57, li_59, li_60, li_61, li_62, li_63, li_80, li_81, li_91, li_93, li_97, li_100, li_122, li_200, li_255, li_256, li_257, li_258, li_259, li_260, li_300, li_314, li_400, li_580, li_999, li_5040, li_9999, li_65536, li_99999, li_7654321] <;> omega, by simp (disch := omega) only [jn_le, jn_lt, jn_eq, jn_in, jn_add, jn_sub, jn_mul, jn_neg, li_0, li_1, li_2, li_3, li_4, li_5, li_6, li_7, li_8, li_9, li_10, li_11, li_12, li_13, li_14, li_15, li_16, li_17, li_18, li_20, li_24, li_29, li_30, li_31, li_32, li_37, li_39, li_40, li_42, li_43, li_45, li_46, li_47, li_48, li_53, li_57, li_59, li_60, li_61, li_62, li_63, li_80, li_81, li_91, li_93, li_97, li_100, li_122, li_200, li_255, li_256, li_257, li_258, li_259, li_260, li_300, li_314, li_400, li_580, li_999, li_5040, li_9999, li_65536, li_99999, li_7654321] <;> omega, ?_⟩⟩
        · rw [jn_eq (by omega) (by omega)] at hd
          exact stay (by omega)
        · rw [jn_eq (by omega) (by omega)] at hd
          rw [jn_cln (by omega), e0, hT i (by omega)]
          refine ⟨fun he => ?_, fun he => ⟨by simp (disch := omega) only [jn_le, jn_lt, jn_eq, jn_in, jn_add, jn_sub, jn_mul, jn_neg, li_0, li_1, li_2, li_3, li_4, li_5, li_6, li_7, li_8, li_9, li_10, li_11, li_12, li_13, li_14, li_15, li_16, li_17, li_18, li_20, li_24, li_29, li_30, li_31, li_32, li_37, li_39, li_40, li_42, li_43, li_45, li_46, li_47, li_48, li_53, li_57, li_59, li_60, li_61, li_62, li_63, li_80, li_81, li_91, li_93, li_97, li_100, li_122, li_200, li_255, li_256, li_257, li_258, li_259, li_260, li_300, li_314, li_400, li_580, li_999, li_5040, li_9999, li_65536, li_99999, li_7654321] <;> omega, by simp (disch := omega) only [jn_le, jn_lt, jn_eq, jn_in, jn_add, jn_sub, jn_mul, jn_neg, li_0, li_1, li_2, li_3, li_4, li_5, li_6, li_7, li_8, li_9, li_10, li_11, li_12, li_13, li_14, li_15, li_16, li_17, li_18, li_20, li_24, li_29, li_30, li_31, li_32, li_37, li_39, li_40, li_42, li_43, li_45, li_46, li_47, li_48, li_53, li_57, li_59, li_60, li_61, li_62, li_63, li_80, li_81, li_91, li_93, li_97, li_100, li_122, li_200, li_255, li_256, li_257, li_258, li_259, li_260, li_300, li_314, li_400, li_580, li_999, li_5040, li_9999, li_65536, li_99999, li_7654321] <;> omega, fun a ha => ?_⟩⟩
          · rw [jn_le (by omega) (by omega)] at he
            exact stay (by omega)
          · rw [jn_le (by omega) (by omega)] at he
            refine ih (i + 1) _ a (by (first | rfl | (simp (disch := omega) only [jn_add, jn_sub, jn_mul, jn_neg, li_0, li_1, li_2, li_3, li_4, li_5, li_6, li_7, li_8, li_9, li_10, li_11, li_12, li_13, li_14, li_15, li_16, li_17, li_18, li_20, li_24, li_29, li_30, li_31, li_32, li_37, li_39, li_40, li_42, li_43, li_45, li_46, li_47, li_48, li_53, li_57, li_59, li_60, li_61, li_62, li_63, li_80, li_81, li_91, li_93, li_97, li_100, li_122, li_200, li_255, li_256, li_257, li_258, li_259, li_260, li_300, li_314, li_400, li_580, li_999, li_5040, li_9999, li_65536, li_99999, li_7654321] <;> first | rfl | exact congrArg jn (by omega)) | exact congrArg jn (by omega))) (by omega) (fun c hc => ?_) (by omega)
            rw [ha]
            by_cases e : c = i
            · subst e
              rw [upd_at]; dsimp only
              rw [if_pos (by omega)]; unfold rst; rw [if_pos (by omega)]
              exact by (first | rfl | (simp (disch := omega) only [jn_add, jn_sub, jn_mul, jn_neg, li_0, li_1, li_2, li_3, li_4, li_5, li_6, li_7, li_8, li_9, li_10, li_11, li_12, li_13, li_14, li_15, li_16, li_17, li_18, li_20, li_24, li_29, li_30, li_31, li_32, li_37, li_39, li_40, li_42, li_43, li_45, li_46, li_47, li_48, li_53, li_57, li_59, li_60, li_61, li_62, li_63, li_80, li_81, li_91, li_93, li_97, li_100, li_122, li_200, li_255, li_256, li_257, li_258, li_259, li_260, li_300, li_314, li_400, li_580, li_999, li_5040, li_9999, li_65536, li_99999, li_7654321] <;> first | rfl | exact congrArg jn (by omega)) | exact congrArg jn (by omega))
            · rw [upd_ne e, hr c hc]; dsimp only
              by_cases e2 : c < i
              · rw [if_pos e2, if_pos (by omega)]
              · rw [if_neg e2, if_neg (by omega)]
  unfold wp_X0_restAllBut
  exact key N 0 _ br rfl (by omega) (fun c hc => by dsimp only; rw [if_neg (by omega)]; exact hR c hc) (by omega)
