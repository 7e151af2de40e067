/-! the reference looks at a text: its methods -/
theorem jl_shl8 (a : Nat) : jl (a : Int) <<< ((8 : Int32).toInt64 &&& 63) = jl ((a * 256 : Nat) : Int) := by
  rw [jl_nat, jl_nat, show ((8 : Int32).toInt64 &&& 63) = 8 from rfl]
  show (⟨⟨BitVec.ofNat 64 a <<< ((8#64).smod 64)⟩⟩ : Int64) = _
  rw [show ((8#64).smod 64) = 8#64 by decide]
  congr 2
  refine BitVec.eq_of_toNat_eq ?_
  rw [BitVec.shiftLeft_eq', BitVec.toNat_shiftLeft, BitVec.toNat_ofNat, BitVec.toNat_ofNat, BitVec.toNat_ofNat, show 8 % 2 ^ 64 = 8 from rfl, Nat.shiftLeft_eq]
  omega
theorem pkw_lt {b : Nat → Int} {p : Nat} : ∀ {j : Nat}, (∀ q, q < j → b (p + q) ≤ 127) → pk b p j < 256 ^ j
  | 0, _ => by simp [pk]
  | j + 1, h => by
    have h1 := pkw_lt (j := j) (fun q hq => h q (by omega))
    have h2 := h j (by omega)
    rw [Nat.pow_succ]; unfold pk; omega
section ML
variable {N n : Nat} {b : Nat → Int} {bt : Nat → Int32}
theorem wm_fails {Q : Int32 → Int32 → Prop} {x y : Int32} {kd p : Nat} (hx : x = jn kd) (hy : y = jn p) (h : Q 0 (jn ((1 + 8 * p + kd : Nat) : Int))) : wp_X12_fails N Q x y 0 := by
  subst hx hy
  unfold wp_X12_fails wp_X12_fails_19
  refine ⟨fun _ => ?_, fun q => absurd rfl q⟩
  rw [show (1 : Int32) + (8 : Int32) * jn p + jn kd = jn ((1 + 8 * p + kd : Nat) : Int) from by (first | rfl | (simp (disch := omega) only [jn_add, jn_sub, jn_mul, jn_neg, li_0, li_1, li_2, li_3, li_4, li_5, li_6, li_7, li_8, li_9, li_10, li_11, li_12, li_13, li_14, li_15, li_16, li_17, li_18, li_20, li_24, li_29, li_30, li_31, li_32, li_37, li_39, li_40, li_42, li_43, li_45, li_46, li_47, li_48, li_53, li_57, li_59, li_60, li_61, li_62, li_63, li_80, li_81, li_91, li_93, li_97, li_100, li_122, li_200, li_255, li_256, li_257, li_258, li_259, li_260, li_300, li_314, li_400, li_580, li_999, li_5040, li_9999, li_65536, li_99999, li_7654321] <;> first | rfl | exact congrArg jn (by omega)) | exact congrArg jn (by omega))]
  exact h
theorem wm_see {a : Nat} {Q : Int32 → Int32 → Prop} {x : Int32} (hN : 500 ≤ N) (hn : n ≤ 400) (hB : ∀ i, i < n → bt i = jn (b i)) (bB : ∀ i, -128 ≤ b i ∧ b i ≤ 127) (ha : a ≤ n) (hx : x = jn a) (h : Q (if skp b n a < n then jn (mk8 (b (skp b n a))) else -1) (jn (skp b n a))) : wp_X12_see N bt (jn n) Q x := by
  have hsk := skp_le (b := b) ha
  have rd : wp_X12_see_38 N bt (jn n) Q (jn (skp b n a)) := by
    unfold wp_X12_see_38 wp_X12_see_66
    generalize skp b n a = p at hsk h ⊢
    refine ⟨fun q => ?_, fun q => ?_⟩
    · simp (disch := omega) only [jn_le, jn_lt, jn_eq, jn_in, jn_add, jn_sub, jn_mul, jn_neg, li_0, li_1, li_2, li_3, li_4, li_5, li_6, li_7, li_8, li_9, li_10, li_11, li_12, li_13, li_14, li_15, li_16, li_17, li_18, li_20, li_24, li_29, li_30, li_31, li_32, li_37, li_39, li_40, li_42, li_43, li_45, li_46, li_47, li_48, li_53, li_57, li_59, li_60, li_61, li_62, li_63, li_80, li_81, li_91, li_93, li_97, li_100, li_122, li_200, li_255, li_256, li_257, li_258, li_259, li_260, li_300, li_314, li_400, li_580, li_999, li_5040, li_9999, li_65536, li_99999, li_7654321] at q
      rw [if_neg (by omega)] at h; exact h
    · simp (disch := omega) only [jn_le, jn_lt, jn_eq, jn_in, jn_add, jn_sub, jn_mul, jn_neg, li_0, li_1, li_2, li_3, li_4, li_5, li_6, li_7, li_8, li_9, li_10, li_11, li_12, li_13, li_14, li_15, li_16, li_17, li_18, li_20, li_24, li_29, li_30, li_31, li_32, li_37, li_39, li_40, li_42, li_43, li_45, li_46, li_47, li_48, li_53, li_57, li_59, li_60, li_61, li_62, li_63, li_80, li_81, li_91, li_93, li_97, li_100, li_122, li_200, li_255, li_256, li_257, li_258, li_259, li_260, li_300, li_314, li_400, li_580, li_999, li_5040, li_9999, li_65536, li_99999, li_7654321] at q
      rw [if_pos (by omega)] at h
      rw [jn_cln (by omega), hB p (by omega), jn_255 (bB p)]
      exact ⟨by simp (disch := omega) only [jn_le, jn_lt, jn_eq, jn_in, jn_add, jn_sub, jn_mul, jn_neg, li_0, li_1, li_2, li_3, li_4, li_5, li_6, li_7, li_8, li_9, li_10, li_11, li_12, li_13, li_14, li_15, li_16, li_17, li_18, li_20, li_24, li_29, li_30, li_31, li_32, li_37, li_39, li_40, li_42, li_43, li_45, li_46, li_47, li_48, li_53, li_57, li_59, li_60, li_61, li_62, li_63, li_80, li_81, li_91, li_93, li_97, li_100, li_122, li_200, li_255, li_256, li_257, li_258, li_259, li_260, li_300, li_314, li_400, li_580, li_999, li_5040, li_9999, li_65536, li_99999, li_7654321] <;> omega, h⟩
  have key : ∀ (m i : Nat) (v : Int32), v = jn ((a + i : Nat) : Int) → a + i ≤ skp b n a → n - a < m + i → wp_X12_see_0 N bt (jn n) Q m v := by
    intro m
    induction m with
    | zero => intro i v _ h1 h2; omega
    | succ m ih =>
      intro i v hv h1 h2
      unfold wp_X12_see_0
      subst hv
      refine ⟨fun q => ?_, fun q => ?_⟩
      · simp (disch := omega) only [jn_le, jn_lt, jn_eq, jn_in, jn_add, jn_sub, jn_mul, jn_neg, li_0, li_1, li_2, li_3, li_4, li_5, li_6, li_7, li_8, li_9, li_10, li_11, li_12, li_13, li_14, li_15, li_16, li_17, li_18, li_20, li_24, li_29, li_30, li_31, li_32, li_37, li_39, li_40, li_42, li_43, li_45, li_46, li_47, li_48, li_53, li_57, li_59, li_60, li_61, li_62, li_63, li_80, li_81, li_91, li_93, li_97, li_100, li_122, li_200, li_255, li_256, li_257, li_258, li_259, li_260, li_300, li_314, li_400, li_580, li_999, li_5040, li_9999, li_65536, li_99999, li_7654321] at q
        have e : a + i = skp b n a := by omega
        rw [e]; exact rd
      · simp (disch := omega) only [jn_le, jn_lt, jn_eq, jn_in, jn_add, jn_sub, jn_mul, jn_neg, li_0, li_1, li_2, li_3, li_4, li_5, li_6, li_7, li_8, li_9, li_10, li_11, li_12, li_13, li_14, li_15, li_16, li_17, li_18, li_20, li_24, li_29, li_30, li_31, li_32, li_37, li_39, li_40, li_42, li_43, li_45, li_46, li_47, li_48, li_53, li_57, li_59, li_60, li_61, li_62, li_63, li_80, li_81, li_91, li_93, li_97, li_100, li_122, li_200, li_255, li_256, li_257, li_258, li_259, li_260, li_300, li_314, li_400, li_580, li_999, li_5040, li_9999, li_65536, li_99999, li_7654321] at q
        have hb := bB (a + i)
        rw [jn_cln (by omega), hB _ (by omega), li_32, jn_eq (by omega) (by omega)]
        refine ⟨by simp (disch := omega) only [jn_le, jn_lt, jn_eq, jn_in, jn_add, jn_sub, jn_mul, jn_neg, li_0, li_1, li_2, li_3, li_4, li_5, li_6, li_7, li_8, li_9, li_10, li_11, li_12, li_13, li_14, li_15, li_16, li_17, li_18, li_20, li_24, li_29, li_30, li_31, li_32, li_37, li_39, li_40, li_42, li_43, li_45, li_46, li_47, li_48, li_53, li_57, li_59, li_60, li_61, li_62, li_63, li_80, li_81, li_91, li_93, li_97, li_100, li_122, li_200, li_255, li_256, li_257, li_258, li_259, li_260, li_300, li_314, li_400, li_580, li_999, li_5040, li_9999, li_65536, li_99999, li_7654321] <;> omega, fun z => ?_, fun z => ?_⟩
        · refine ih (i + 1) _ (by rw [li_1, jn_add]; exact congrArg jn (by omega)) ?_ (by omega)
          by_cases e : a + i = skp b n a
          · exact absurd z (by rw [e]; exact skp_stop (by omega))
          · omega
        · have e : a + i = skp b n a := by
            by_cases e : a + i = skp b n a
            · exact e
            · have := lead_all (f := fun i => decide (b (a + i) = 32)) (n := n - a) (i := i) (by unfold skp at h1 e; omega)
              exact absurd (of_decide_eq_true this) z
          rw [e]; exact rd
  unfold wp_X12_see
  exact key N 0 _ hx (by omega) (by omega)
theorem wm_isDigit {i : Nat} {Q : Int32 → Prop} {x : Int32} (hn : n ≤ 400) (hB : ∀ i, i < n → bt i = jn (b i)) (bB : ∀ i, -128 ≤ b i ∧ b i ≤ 127) (hi : i < 10000) (hx : x = jn i) (h : Q (if i < n ∧ (48 ≤ b i ∧ b i ≤ 57) then 1 else 0)) : wp_X12_isDigit N bt (jn n) Q x := by
  subst hx
  have hb := bB i
  unfold wp_X12_isDigit wp_X12_isDigit_34 wp_X12_isDigit_35
  refine ⟨fun q => ⟨Or.inl rfl, ?_⟩, fun q => ?_⟩
  · simp (disch := omega) only [jn_le, jn_lt, jn_eq, jn_in, jn_add, jn_sub, jn_mul, jn_neg, li_0, li_1, li_2, li_3, li_4, li_5, li_6, li_7, li_8, li_9, li_10, li_11, li_12, li_13, li_14, li_15, li_16, li_17, li_18, li_20, li_24, li_29, li_30, li_31, li_32, li_37, li_39, li_40, li_42, li_43, li_45, li_46, li_47, li_48, li_53, li_57, li_59, li_60, li_61, li_62, li_63, li_80, li_81, li_91, li_93, li_97, li_100, li_122, li_200, li_255, li_256, li_257, li_258, li_259, li_260, li_300, li_314, li_400, li_580, li_999, li_5040, li_9999, li_65536, li_99999, li_7654321] at q
    rwa [if_neg (by omega)] at h
  · simp (disch := omega) only [jn_le, jn_lt, jn_eq, jn_in, jn_add, jn_sub, jn_mul, jn_neg, li_0, li_1, li_2, li_3, li_4, li_5, li_6, li_7, li_8, li_9, li_10, li_11, li_12, li_13, li_14, li_15, li_16, li_17, li_18, li_20, li_24, li_29, li_30, li_31, li_32, li_37, li_39, li_40, li_42, li_43, li_45, li_46, li_47, li_48, li_53, li_57, li_59, li_60, li_61, li_62, li_63, li_80, li_81, li_91, li_93, li_97, li_100, li_122, li_200, li_255, li_256, li_257, li_258, li_259, li_260, li_300, li_314, li_400, li_580, li_999, li_5040, li_9999, li_65536, li_99999, li_7654321] at q
    rw [jn_cln (by omega), hB i (by omega), li_48, li_57, jn_lt (by omega) (by omega), jn_lt (by omega) (by omega)]
    refine ⟨by simp (disch := omega) only [jn_le, jn_lt, jn_eq, jn_in, jn_add, jn_sub, jn_mul, jn_neg, li_0, li_1, li_2, li_3, li_4, li_5, li_6, li_7, li_8, li_9, li_10, li_11, li_12, li_13, li_14, li_15, li_16, li_17, li_18, li_20, li_24, li_29, li_30, li_31, li_32, li_37, li_39, li_40, li_42, li_43, li_45, li_46, li_47, li_48, li_53, li_57, li_59, li_60, li_61, li_62, li_63, li_80, li_81, li_91, li_93, li_97, li_100, li_122, li_200, li_255, li_256, li_257, li_258, li_259, li_260, li_300, li_314, li_400, li_580, li_999, li_5040, li_9999, li_65536, li_99999, li_7654321] <;> omega, fun q2 => ⟨Or.inl rfl, ?_⟩, fun q2 => ⟨by simp (disch := omega) only [jn_le, jn_lt, jn_eq, jn_in, jn_add, jn_sub, jn_mul, jn_neg, li_0, li_1, li_2, li_3, li_4, li_5, li_6, li_7, li_8, li_9, li_10, li_11, li_12, li_13, li_14, li_15, li_16, li_17, li_18, li_20, li_24, li_29, li_30, li_31, li_32, li_37, li_39, li_40, li_42, li_43, li_45, li_46, li_47, li_48, li_53, li_57, li_59, li_60, li_61, li_62, li_63, li_80, li_81, li_91, li_93, li_97, li_100, li_122, li_200, li_255, li_256, li_257, li_258, li_259, li_260, li_300, li_314, li_400, li_580, li_999, li_5040, li_9999, li_65536, li_99999, li_7654321] <;> omega, fun q3 => ⟨Or.inl rfl, ?_⟩, fun q3 => ⟨Or.inr rfl, ?_⟩⟩⟩
    · rwa [if_neg (by omega)] at h
    · rwa [if_neg (by omega)] at h
    · rwa [if_pos (by omega)] at h
theorem wm_isLetter {i : Nat} {Q : Int32 → Prop} {x : Int32} (hn : n ≤ 400) (hB : ∀ i, i < n → bt i = jn (b i)) (bB : ∀ i, -128 ≤ b i ∧ b i ≤ 127) (hi : i < 10000) (hx : x = jn i) (h : Q (if i < n ∧ (97 ≤ b i ∧ b i ≤ 122) then 1 else 0)) : wp_X12_isLetter N bt (jn n) Q x := by
  subst hx
  have hb := bB i
  unfold wp_X12_isLetter wp_X12_isLetter_34 wp_X12_isLetter_35
  refine ⟨fun q => ⟨Or.inl rfl, ?_⟩, fun q => ?_⟩
  · simp (disch := omega) only [jn_le, jn_lt, jn_eq, jn_in, jn_add, jn_sub, jn_mul, jn_neg, li_0, li_1, li_2, li_3, li_4, li_5, li_6, li_7, li_8, li_9, li_10, li_11, li_12, li_13, li_14, li_15, li_16, li_17, li_18, li_20, li_24, li_29, li_30, li_31, li_32, li_37, li_39, li_40, li_42, li_43, li_45, li_46, li_47, li_48, li_53, li_57, li_59, li_60, li_61, li_62, li_63, li_80, li_81, li_91, li_93, li_97, li_100, li_122, li_200, li_255, li_256, li_257, li_258, li_259, li_260, li_300, li_314, li_400, li_580, li_999, li_5040, li_9999, li_65536, li_99999, li_7654321] at q
    rwa [if_neg (by omega)] at h
  · simp (disch := omega) only [jn_le, jn_lt, jn_eq, jn_in, jn_add, jn_sub, jn_mul, jn_neg, li_0, li_1, li_2, li_3, li_4, li_5, li_6, li_7, li_8, li_9, li_10, li_11, li_12, li_13, li_14, li_15, li_16, li_17, li_18, li_20, li_24, li_29, li_30, li_31, li_32, li_37, li_39, li_40, li_42, li_43, li_45, li_46, li_47, li_48, li_53, li_57, li_59, li_60, li_61, li_62, li_63, li_80, li_81, li_91, li_93, li_97, li_100, li_122, li_200, li_255, li_256, li_257, li_258, li_259, li_260, li_300, li_314, li_400, li_580, li_999, li_5040, li_9999, li_65536, li_99999, li_7654321] at q
    rw [jn_cln (by omega), hB i (by omega), li_97, li_122, jn_lt (by omega) (by omega), jn_lt (by omega) (by omega)]
    refine ⟨by simp (disch := omega) only [jn_le, jn_lt, jn_eq, jn_in, jn_add, jn_sub, jn_mul, jn_neg, li_0, li_1, li_2, li_3, li_4, li_5, li_6, li_7, li_8, li_9, li_10, li_11, li_12, li_13, li_14, li_15, li_16, li_17, li_18, li_20, li_24, li_29, li_30, li_31, li_32, li_37, li_39, li_40, li_42, li_43, li_45, li_46, li_47, li_48, li_53, li_57, li_59, li_60, li_61, li_62, li_63, li_80, li_81, li_91, li_93, li_97, li_100, li_122, li_200, li_255, li_256, li_257, li_258, li_259, li_260, li_300, li_314, li_400, li_580, li_999, li_5040, li_9999, li_65536, li_99999, li_7654321] <;> omega, fun q2 => ⟨Or.inl rfl, ?_⟩, fun q2 => ⟨by simp (disch := omega) only [jn_le, jn_lt, jn_eq, jn_in, jn_add, jn_sub, jn_mul, jn_neg, li_0, li_1, li_2, li_3, li_4, li_5, li_6, li_7, li_8, li_9, li_10, li_11, li_12, li_13, li_14, li_15, li_16, li_17, li_18, li_20, li_24, li_29, li_30, li_31, li_32, li_37, li_39, li_40, li_42, li_43, li_45, li_46, li_47, li_48, li_53, li_57, li_59, li_60, li_61, li_62, li_63, li_80, li_81, li_91, li_93, li_97, li_100, li_122, li_200, li_255, li_256, li_257, li_258, li_259, li_260, li_300, li_314, li_400, li_580, li_999, li_5040, li_9999, li_65536, li_99999, li_7654321] <;> omega, fun q3 => ⟨Or.inl rfl, ?_⟩, fun q3 => ⟨Or.inr rfl, ?_⟩⟩⟩
    · rwa [if_neg (by omega)] at h
    · rwa [if_neg (by omega)] at h
    · rwa [if_pos (by omega)] at h
theorem wl_in {p i : Nat} (h1 : i ≤ wl b n p) (hp : p ≤ n) : (p + i < n ∧ (97 ≤ b (p + i) ∧ b (p + i) ≤ 122)) ↔ i < wl b n p := by
  have hwl := wl_le (b := b) (n := n) (p := p)
  constructor
  · rintro ⟨z1, z2⟩
    by_cases z : i < wl b n p
    · exact z
    · have e : wl b n p = i := by omega
      have := lead_stop (f := fun i => decide (97 ≤ b (p + i) ∧ b (p + i) ≤ 122)) (n := n - p) (by show wl b n p < _; omega)
      rw [show lead _ (n - p) = i from e] at this
      exact absurd z2 (of_decide_eq_false this)
  · intro z; exact ⟨by omega, wl_all z⟩
theorem dl_in {p i : Nat} (h1 : i ≤ dl b n p) (hp : p ≤ n) : (p + i < n ∧ (48 ≤ b (p + i) ∧ b (p + i) ≤ 57)) ↔ i < dl b n p := by
  have hwl := dl_le (b := b) (n := n) (p := p)
  constructor
  · rintro ⟨z1, z2⟩
    by_cases z : i < dl b n p
    · exact z
    · have e : dl b n p = i := by omega
      have := lead_stop (f := fun i => decide (48 ≤ b (p + i) ∧ b (p + i) ≤ 57)) (n := n - p) (by show dl b n p < _; omega)
      rw [show lead _ (n - p) = i from e] at this
      exact absurd z2 (of_decide_eq_false this)
  · intro z; exact ⟨by omega, dl_all z⟩
theorem wm_isWord {a i : Nat} {Q : Int32 → Int32 → Prop} {x : Int32} {w : Int64} (hN : 500 ≤ N) (hn : n ≤ 400) (hB : ∀ i, i < n → bt i = jn (b i)) (bB : ∀ i, -128 ≤ b i ∧ b i ≤ 127) (ha : a ≤ n) (hx : x = jn a) (hi : i < 15) (hw : w = jl ((wcs.getD i 0 : Nat) : Int)) (h : Q (if sgn b n (skp b n a) = 300 + i then 1 else 0) (jn (skp b n a))) : wp_X12_isWord N bt (jn n) Q w x := by
  have hsk := skp_le (b := b) ha
  unfold wp_X12_isWord
  refine wm_see hN hn hB bB ha hx ?_
  generalize skp b n a = p at hsk h ⊢
  have hwl := wl_le (b := b) (n := n) (p := p)
  have hcs : ∀ i, i < 15 → wcs.getD i 0 < 2 ^ 62 := by decide
  have hcs := hcs i hi
  have key : ∀ (m j : Nat) (v : Int64) (u : Int32), u = jn j → v = jl ((pk b p (min j 8) : Nat) : Int) → j ≤ wl b n p → n - p < m + j → wp_X12_isWord_10 N bt (jn n) Q m w v u (jn p) := by
    intro m
    induction m with
    | zero => intro j v u _ _ h1 h2; omega
    | succ m ih =>
      intro j v u hu hv h1 h2
      unfold wp_X12_isWord_10 wp_X12_isWord_78 wp_X12_isWord_79 wp_X12_isWord_50
      subst hu
      have epj : jn (p : Int) + jn j = jn ((p + j : Nat) : Int) := by rw [jn_add]; rfl
      rw [epj]
      refine wm_isLetter hn hB bB (by omega) rfl ?_
      by_cases hj : j < wl b n p
      · rw [if_pos ((wl_in h1 hsk.2).mpr hj)]
        refine ⟨fun q => absurd q (by decide), fun _ => ⟨fun q => ?_, fun q => ?_⟩⟩
        · simp (disch := omega) only [jn_le, jn_lt, jn_eq, jn_in, jn_add, jn_sub, jn_mul, jn_neg, li_0, li_1, li_2, li_3, li_4, li_5, li_6, li_7, li_8, li_9, li_10, li_11, li_12, li_13, li_14, li_15, li_16, li_17, li_18, li_20, li_24, li_29, li_30, li_31, li_32, li_37, li_39, li_40, li_42, li_43, li_45, li_46, li_47, li_48, li_53, li_57, li_59, li_60, li_61, li_62, li_63, li_80, li_81, li_91, li_93, li_97, li_100, li_122, li_200, li_255, li_256, li_257, li_258, li_259, li_260, li_300, li_314, li_400, li_580, li_999, li_5040, li_9999, li_65536, li_99999, li_7654321] at q
          exact ih (j + 1) _ _ (by (first | rfl | (simp (disch := omega) only [jn_add, jn_sub, jn_mul, jn_neg, li_0, li_1, li_2, li_3, li_4, li_5, li_6, li_7, li_8, li_9, li_10, li_11, li_12, li_13, li_14, li_15, li_16, li_17, li_18, li_20, li_24, li_29, li_30, li_31, li_32, li_37, li_39, li_40, li_42, li_43, li_45, li_46, li_47, li_48, li_53, li_57, li_59, li_60, li_61, li_62, li_63, li_80, li_81, li_91, li_93, li_97, li_100, li_122, li_200, li_255, li_256, li_257, li_258, li_259, li_260, li_300, li_314, li_400, li_580, li_999, li_5040, li_9999, li_65536, li_99999, li_7654321] <;> first | rfl | exact congrArg jn (by omega)) | exact congrArg jn (by omega))) (by rw [hv, show min (j + 1) 8 = min j 8 by omega]) (by omega) (by omega)
        · simp (disch := omega) only [jn_le, jn_lt, jn_eq, jn_in, jn_add, jn_sub, jn_mul, jn_neg, li_0, li_1, li_2, li_3, li_4, li_5, li_6, li_7, li_8, li_9, li_10, li_11, li_12, li_13, li_14, li_15, li_16, li_17, li_18, li_20, li_24, li_29, li_30, li_31, li_32, li_37, li_39, li_40, li_42, li_43, li_45, li_46, li_47, li_48, li_53, li_57, li_59, li_60, li_61, li_62, li_63, li_80, li_81, li_91, li_93, li_97, li_100, li_122, li_200, li_255, li_256, li_257, li_258, li_259, li_260, li_300, li_314, li_400, li_580, li_999, li_5040, li_9999, li_65536, li_99999, li_7654321] at q
          have hb := wl_all hj
          refine ⟨by simp (disch := omega) only [jn_le, jn_lt, jn_eq, jn_in, jn_add, jn_sub, jn_mul, jn_neg, li_0, li_1, li_2, li_3, li_4, li_5, li_6, li_7, li_8, li_9, li_10, li_11, li_12, li_13, li_14, li_15, li_16, li_17, li_18, li_20, li_24, li_29, li_30, li_31, li_32, li_37, li_39, li_40, li_42, li_43, li_45, li_46, li_47, li_48, li_53, li_57, li_59, li_60, li_61, li_62, li_63, li_80, li_81, li_91, li_93, li_97, li_100, li_122, li_200, li_255, li_256, li_257, li_258, li_259, li_260, li_300, li_314, li_400, li_580, li_999, li_5040, li_9999, li_65536, li_99999, li_7654321] <;> omega, fun y hy => ih (j + 1) _ _ (by (first | rfl | (simp (disch := omega) only [jn_add, jn_sub, jn_mul, jn_neg, li_0, li_1, li_2, li_3, li_4, li_5, li_6, li_7, li_8, li_9, li_10, li_11, li_12, li_13, li_14, li_15, li_16, li_17, li_18, li_20, li_24, li_29, li_30, li_31, li_32, li_37, li_39, li_40, li_42, li_43, li_45, li_46, li_47, li_48, li_53, li_57, li_59, li_60, li_61, li_62, li_63, li_80, li_81, li_91, li_93, li_97, li_100, li_122, li_200, li_255, li_256, li_257, li_258, li_259, li_260, li_300, li_314, li_400, li_580, li_999, li_5040, li_9999, li_65536, li_99999, li_7654321] <;> first | rfl | exact congrArg jn (by omega)) | exact congrArg jn (by omega))) ?_ (by omega) (by omega)⟩
          rw [hy, hv, jn_cln (by omega), hB _ (by omega), show min (j + 1) 8 = j + 1 by omega, show min j 8 = j by omega, jl_shl8, jn_l (by omega)]
          rw [show b (p + j) = (((b (p + j)).toNat : Nat) : Int) by omega, jl_or, show (256 : Nat) = 2 ^ 8 from rfl, or_add (by omega)]
          rfl
      · have e : j = wl b n p := by omega
        rw [if_neg (fun z => hj ((wl_in h1 hsk.2).mp z))]
        refine ⟨fun _ => ?_, fun q => absurd rfl q⟩
        have no : ¬ (p < n ∧ (97 ≤ b p ∧ b p ≤ 122) ∧ wl b n p ≤ 6 ∧ wmt b n p i = true) → Q 0 (jn p) := by
          intro z
          rwa [if_neg (fun y => z ((sgn_word hi).mp y))] at h
        refine ⟨fun q => ⟨Or.inl rfl, ?_⟩, fun q => ⟨fun q2 => ⟨Or.inl rfl, ?_⟩, fun q2 => ?_⟩⟩
        · simp (disch := omega) only [jn_le, jn_lt, jn_eq, jn_in, jn_add, jn_sub, jn_mul, jn_neg, li_0, li_1, li_2, li_3, li_4, li_5, li_6, li_7, li_8, li_9, li_10, li_11, li_12, li_13, li_14, li_15, li_16, li_17, li_18, li_20, li_24, li_29, li_30, li_31, li_32, li_37, li_39, li_40, li_42, li_43, li_45, li_46, li_47, li_48, li_53, li_57, li_59, li_60, li_61, li_62, li_63, li_80, li_81, li_91, li_93, li_97, li_100, li_122, li_200, li_255, li_256, li_257, li_258, li_259, li_260, li_300, li_314, li_400, li_580, li_999, li_5040, li_9999, li_65536, li_99999, li_7654321] at q
          refine no (fun z => ?_)
          have := wl_pos z.1 z.2.1
          omega
        · simp (disch := omega) only [jn_le, jn_lt, jn_eq, jn_in, jn_add, jn_sub, jn_mul, jn_neg, li_0, li_1, li_2, li_3, li_4, li_5, li_6, li_7, li_8, li_9, li_10, li_11, li_12, li_13, li_14, li_15, li_16, li_17, li_18, li_20, li_24, li_29, li_30, li_31, li_32, li_37, li_39, li_40, li_42, li_43, li_45, li_46, li_47, li_48, li_53, li_57, li_59, li_60, li_61, li_62, li_63, li_80, li_81, li_91, li_93, li_97, li_100, li_122, li_200, li_255, li_256, li_257, li_258, li_259, li_260, li_300, li_314, li_400, li_580, li_999, li_5040, li_9999, li_65536, li_99999, li_7654321] at q2
          exact no (fun z => by omega)
        · simp (disch := omega) only [jn_le, jn_lt, jn_eq, jn_in, jn_add, jn_sub, jn_mul, jn_neg, li_0, li_1, li_2, li_3, li_4, li_5, li_6, li_7, li_8, li_9, li_10, li_11, li_12, li_13, li_14, li_15, li_16, li_17, li_18, li_20, li_24, li_29, li_30, li_31, li_32, li_37, li_39, li_40, li_42, li_43, li_45, li_46, li_47, li_48, li_53, li_57, li_59, li_60, li_61, li_62, li_63, li_80, li_81, li_91, li_93, li_97, li_100, li_122, li_200, li_255, li_256, li_257, li_258, li_259, li_260, li_300, li_314, li_400, li_580, li_999, li_5040, li_9999, li_65536, li_99999, li_7654321] at q
          simp (disch := omega) only [jn_le, jn_lt, jn_eq, jn_in, jn_add, jn_sub, jn_mul, jn_neg, li_0, li_1, li_2, li_3, li_4, li_5, li_6, li_7, li_8, li_9, li_10, li_11, li_12, li_13, li_14, li_15, li_16, li_17, li_18, li_20, li_24, li_29, li_30, li_31, li_32, li_37, li_39, li_40, li_42, li_43, li_45, li_46, li_47, li_48, li_53, li_57, li_59, li_60, li_61, li_62, li_63, li_80, li_81, li_91, li_93, li_97, li_100, li_122, li_200, li_255, li_256, li_257, li_258, li_259, li_260, li_300, li_314, li_400, li_580, li_999, li_5040, li_9999, li_65536, li_99999, li_7654321] at q2
          have hpl := pkw_lt (b := b) (p := p) (j := j) (fun q hq => (bB _).2)
          have h7 : 256 ^ j ≤ 256 ^ 7 := Nat.pow_le_pow_right (by decide) (by omega)
          rw [jn_cmp0, hv, hw, show min j 8 = j by omega, jl_eq (by omega) (by omega)]
          have key2 := pk_word (b := b) (n := n) (p := p) hi (by omega) (by omega)
          rw [← e] at key2
          have hp0 : 97 ≤ b p ∧ b p ≤ 122 := wl_all (b := b) (n := n) (p := p) (j := 0) (by omega)
          refine ⟨fun q3 => ⟨Or.inr rfl, ?_⟩, fun q3 => ⟨Or.inl rfl, ?_⟩⟩
          · have z := key2.mp (by omega)
            rwa [if_pos ((sgn_word hi).mpr ⟨by omega, hp0, by omega, z.2⟩)] at h
          · refine no (fun z => q3 ?_)
            have := key2.mpr ⟨by omega, z.2.2.2⟩
            omega
  exact key N 0 _ _ rfl rfl (by omega) (by omega)
theorem wm_passWord {p : Nat} {Q : Int32 → Prop} {x : Int32} (hN : 500 ≤ N) (hn : n ≤ 400) (hB : ∀ i, i < n → bt i = jn (b i)) (bB : ∀ i, -128 ≤ b i ∧ b i ≤ 127) (hp : p ≤ n) (hx : x = jn p) (h : Q (jn ((p + wl b n p : Nat) : Int))) : wp_X12_passWord N bt (jn n) Q x := by
  have hwl := wl_le (b := b) (n := n) (p := p)
  have key : ∀ (m j : Nat) (u : Int32), u = jn ((p + j : Nat) : Int) → j ≤ wl b n p → n - p < m + j → wp_X12_passWord_0 N bt (jn n) Q m u := by
    intro m
    induction m with
    | zero => intro j u _ h1 h2; omega
    | succ m ih =>
      intro j u hu h1 h2
      unfold wp_X12_passWord_0
      subst hu
      refine wm_isLetter hn hB bB (by omega) rfl ?_
      by_cases hj : j < wl b n p
      · rw [if_pos ((wl_in h1 hp).mpr hj)]
        exact ⟨fun q => absurd q (by decide), fun _ => ih (j + 1) _ (by rw [li_1, jn_add]; exact congrArg jn (by omega)) (by omega) (by omega)⟩
      · rw [if_neg (fun z => hj ((wl_in h1 hp).mp z))]
        refine ⟨fun _ => ?_, fun q => absurd rfl q⟩
        rw [show j = wl b n p by omega]; exact h
  unfold wp_X12_passWord
  exact key N 0 _ hx (by omega) (by omega)
end ML
