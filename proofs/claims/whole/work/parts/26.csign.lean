/-! the class reads a sign -/
theorem wl_readSign {N n a : Nat} {b : Nat → Int} {bt : Nat → Int32} {Q : Int32 → Int32 → Int32 → Int32 → Prop} {x s0 p0 u0 : Int32} (hN : 500 ≤ N) (hn : n ≤ 400) (hB : ∀ i, i < n → bt i = jn (b i)) (bB : ∀ i, -128 ≤ b i ∧ b i ≤ 127) (ha : a ≤ n) (hx : x = jn a) (h : ∀ u, (sgn b n (skp b n a) = 257 → u = jn (numb b n (skp b n a))) → Q (jn (en b n (skp b n a))) (jn (sgn b n (skp b n a))) (jn (skp b n a)) u) : wp_X9_readSign N bt (jn n) Q x s0 p0 u0 := by
  have hsk := skp_le (b := b) ha
  have rd : ∀ s0 p0 u0, wp_X9_readSign_38 N bt (jn n) Q (jn (skp b n a)) s0 p0 u0 := by
    intro s0 p0 u0
    unfold wp_X9_readSign_38 wp_X9_readSign_115
    generalize hp : skp b n a = p at hsk h ⊢
    refine ⟨fun q => ?_, fun q => ?_⟩
    · simp (disch := omega) only [jn_le, jn_lt, jn_eq, jn_in, jn_add, jn_sub, jn_mul, jn_neg, li_0, li_1, li_2, li_3, li_4, li_5, li_6, li_7, li_8, li_9, li_10, li_11, li_12, li_13, li_14, li_15, li_16, li_17, li_18, li_20, li_24, li_29, li_30, li_31, li_32, li_37, li_39, li_40, li_42, li_43, li_45, li_46, li_47, li_48, li_53, li_57, li_59, li_60, li_61, li_62, li_63, li_80, li_81, li_91, li_93, li_97, li_100, li_122, li_200, li_255, li_256, li_257, li_258, li_259, li_260, li_300, li_314, li_400, li_580, li_999, li_5040, li_9999, li_65536, li_99999, li_7654321] at q
      have hpn : p < n := by omega
      have hb := bB p
      have e1 : en b n p = if 97 ≤ b p ∧ b p ≤ 122 then p + wl b n p else if 48 ≤ b p ∧ b p ≤ 57 then p + dl b n p
          else if (b p = 60 ∨ b p = 62) ∧ p + 1 < n ∧ b (p + 1) = 61 then p + 2 else p + 1 := by unfold en; rw [if_neg (by omega)]
      have e2 : sgn b n p = if 97 ≤ b p ∧ b p ≤ 122 then (if wl b n p ≤ 6 then wxf b n p 15 else 260) else if 48 ≤ b p ∧ b p ≤ 57 then 257
          else if (b p = 60 ∨ b p = 62) ∧ p + 1 < n ∧ b (p + 1) = 61 then (if b p = 60 then 258 else 259) else mk8 (b p) := by unfold sgn; rw [if_neg (by omega)]
      refine ⟨by simp (disch := omega) only [jn_le, jn_lt, jn_eq, jn_in, jn_add, jn_sub, jn_mul, jn_neg, li_0, li_1, li_2, li_3, li_4, li_5, li_6, li_7, li_8, li_9, li_10, li_11, li_12, li_13, li_14, li_15, li_16, li_17, li_18, li_20, li_24, li_29, li_30, li_31, li_32, li_37, li_39, li_40, li_42, li_43, li_45, li_46, li_47, li_48, li_53, li_57, li_59, li_60, li_61, li_62, li_63, li_80, li_81, li_91, li_93, li_97, li_100, li_122, li_200, li_255, li_256, li_257, li_258, li_259, li_260, li_300, li_314, li_400, li_580, li_999, li_5040, li_9999, li_65536, li_99999, li_7654321] <;> omega, ?_⟩
      rw [jn_cln (by omega), hB p hpn]
      refine wl_isLetter rfl hb ⟨fun z => ⟨by simp (disch := omega) only [jn_le, jn_lt, jn_eq, jn_in, jn_add, jn_sub, jn_mul, jn_neg, li_0, li_1, li_2, li_3, li_4, li_5, li_6, li_7, li_8, li_9, li_10, li_11, li_12, li_13, li_14, li_15, li_16, li_17, li_18, li_20, li_24, li_29, li_30, li_31, li_32, li_37, li_39, li_40, li_42, li_43, li_45, li_46, li_47, li_48, li_53, li_57, li_59, li_60, li_61, li_62, li_63, li_80, li_81, li_91, li_93, li_97, li_100, li_122, li_200, li_255, li_256, li_257, li_258, li_259, li_260, li_300, li_314, li_400, li_580, li_999, li_5040, li_9999, li_65536, li_99999, li_7654321] <;> omega, wl_isDigit rfl hb ⟨fun z2 => ?_, fun z2 => ?_⟩⟩, fun z => ?_⟩
      · have y1 : ¬ (97 ≤ b p ∧ b p ≤ 122) := by
          intro y; rw [if_pos y] at z; exact absurd z (by decide)
        have y2 : ¬ (48 ≤ b p ∧ b p ≤ 57) := by
          intro y; rw [if_pos y] at z2; exact absurd z2 (by decide)
        refine wl_readMark hn hB bB hpn y1 y2 rfl (h u0 (fun y => ?_))
        rw [e2, if_neg y1, if_neg y2] at y
        have := mk8_lt (x := b p)
        split at y
        · split at y <;> omega
        · omega
      · have y1 : ¬ (97 ≤ b p ∧ b p ≤ 122) := by
          intro y; rw [if_pos y] at z; exact absurd z (by decide)
        have y2 : (48 ≤ b p ∧ b p ≤ 57) := by
          by_cases y : 48 ≤ b p ∧ b p ≤ 57
          · exact y
          · rw [if_neg y] at z2; exact absurd rfl z2
        refine wl_readNumber hN hn hB bB hpn rfl ?_
        have := h (jn (numb b n p)) (fun _ => rfl)
        rw [e1, e2, if_neg y1, if_pos y2, if_neg y1, if_pos y2] at this
        exact this
      · have y1 : (97 ≤ b p ∧ b p ≤ 122) := by
          by_cases y : 97 ≤ b p ∧ b p ≤ 122
          · exact y
          · rw [if_neg y] at z; exact absurd rfl z
        refine wl_readWord hN hn hB bB hpn rfl ?_
        have := h u0 (fun y => by
          rw [e2, if_pos y1] at y
          have := wxf_r (b := b) (n := n) (p := p) (i := 15)
          split at y <;> omega)
        rw [e1, e2, if_pos y1, if_pos y1] at this
        exact this
    · simp (disch := omega) only [jn_le, jn_lt, jn_eq, jn_in, jn_add, jn_sub, jn_mul, jn_neg, li_0, li_1, li_2, li_3, li_4, li_5, li_6, li_7, li_8, li_9, li_10, li_11, li_12, li_13, li_14, li_15, li_16, li_17, li_18, li_20, li_24, li_29, li_30, li_31, li_32, li_37, li_39, li_40, li_42, li_43, li_45, li_46, li_47, li_48, li_53, li_57, li_59, li_60, li_61, li_62, li_63, li_80, li_81, li_91, li_93, li_97, li_100, li_122, li_200, li_255, li_256, li_257, li_258, li_259, li_260, li_300, li_314, li_400, li_580, li_999, li_5040, li_9999, li_65536, li_99999, li_7654321] at q
      have e : p = n := by omega
      have := h u0 (fun y => by unfold sgn at y; rw [if_pos (by omega)] at y; omega)
      unfold en sgn at this
      rw [if_pos (by omega), if_pos (by omega)] at this
      exact this
  have key : ∀ (m i : Nat) (v : Int32) (s0 p0 u0 : Int32), v = jn ((a + i : Nat) : Int) → a + i ≤ skp b n a → n - a < m + i → wp_X9_readSign_0 N bt (jn n) Q m v s0 p0 u0 := by
    intro m
    induction m with
    | zero => intro i v s0 p0 u0 _ h1 h2; omega
    | succ m ih =>
      intro i v s0 p0 u0 hv h1 h2
      unfold wp_X9_readSign_0
      subst hv
      refine ⟨fun q => ?_, fun q => ?_⟩
      · simp (disch := omega) only [jn_le, jn_lt, jn_eq, jn_in, jn_add, jn_sub, jn_mul, jn_neg, li_0, li_1, li_2, li_3, li_4, li_5, li_6, li_7, li_8, li_9, li_10, li_11, li_12, li_13, li_14, li_15, li_16, li_17, li_18, li_20, li_24, li_29, li_30, li_31, li_32, li_37, li_39, li_40, li_42, li_43, li_45, li_46, li_47, li_48, li_53, li_57, li_59, li_60, li_61, li_62, li_63, li_80, li_81, li_91, li_93, li_97, li_100, li_122, li_200, li_255, li_256, li_257, li_258, li_259, li_260, li_300, li_314, li_400, li_580, li_999, li_5040, li_9999, li_65536, li_99999, li_7654321] at q
        have e : a + i = skp b n a := by omega
        rw [e]; exact rd _ _ _
      · simp (disch := omega) only [jn_le, jn_lt, jn_eq, jn_in, jn_add, jn_sub, jn_mul, jn_neg, li_0, li_1, li_2, li_3, li_4, li_5, li_6, li_7, li_8, li_9, li_10, li_11, li_12, li_13, li_14, li_15, li_16, li_17, li_18, li_20, li_24, li_29, li_30, li_31, li_32, li_37, li_39, li_40, li_42, li_43, li_45, li_46, li_47, li_48, li_53, li_57, li_59, li_60, li_61, li_62, li_63, li_80, li_81, li_91, li_93, li_97, li_100, li_122, li_200, li_255, li_256, li_257, li_258, li_259, li_260, li_300, li_314, li_400, li_580, li_999, li_5040, li_9999, li_65536, li_99999, li_7654321] at q
        have hb := bB (a + i)
        rw [jn_cln (by omega), hB _ (by omega), li_32, jn_eq (by omega) (by omega)]
        refine ⟨by simp (disch := omega) only [jn_le, jn_lt, jn_eq, jn_in, jn_add, jn_sub, jn_mul, jn_neg, li_0, li_1, li_2, li_3, li_4, li_5, li_6, li_7, li_8, li_9, li_10, li_11, li_12, li_13, li_14, li_15, li_16, li_17, li_18, li_20, li_24, li_29, li_30, li_31, li_32, li_37, li_39, li_40, li_42, li_43, li_45, li_46, li_47, li_48, li_53, li_57, li_59, li_60, li_61, li_62, li_63, li_80, li_81, li_91, li_93, li_97, li_100, li_122, li_200, li_255, li_256, li_257, li_258, li_259, li_260, li_300, li_314, li_400, li_580, li_999, li_5040, li_9999, li_65536, li_99999, li_7654321] <;> omega, fun z => ?_, fun z => ?_⟩
        · refine ih (i + 1) _ _ _ _ (by rw [li_1, jn_add]; exact congrArg jn (by omega)) ?_ (by omega)
          by_cases e : a + i = skp b n a
          · exact absurd z (by rw [e]; exact skp_stop (by omega))
          · omega
        · have e : a + i = skp b n a := by
            by_cases e : a + i = skp b n a
            · exact e
            · have := lead_all (f := fun i => decide (b (a + i) = 32)) (n := n - a) (i := i) (by unfold skp at h1 e; omega)
              exact absurd (of_decide_eq_true this) z
          rw [e]; exact rd _ _ _
  unfold wp_X9_readSign
  exact key N 0 _ _ _ _ hx (by omega) (by omega)
