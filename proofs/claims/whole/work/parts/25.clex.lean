/-! the class's Tape reads a sign -/
theorem wl_isLetter {N : Nat} {Q : Int32 → Prop} {x : Int32} {v : Int} (hx : x = jn v) (hv : -128 ≤ v ∧ v ≤ 127) (h : Q (if 97 ≤ v ∧ v ≤ 122 then 1 else 0)) : wp_X9_isLetter N Q x := by
  subst hx
  unfold wp_X9_isLetter wp_X9_isLetter_16 wp_X9_isLetter_17
  rw [li_97, li_122, jn_lt (by omega) (by omega), jn_lt (by omega) (by omega)]
  refine ⟨fun q => ⟨Or.inl rfl, ?_⟩, fun q => ⟨fun q2 => ⟨Or.inl rfl, ?_⟩, fun q2 => ⟨Or.inr rfl, ?_⟩⟩⟩
  · rwa [if_neg (by omega)] at h
  · rwa [if_neg (by omega)] at h
  · rwa [if_pos (by omega)] at h
theorem wl_isDigit {N : Nat} {Q : Int32 → Prop} {x : Int32} {v : Int} (hx : x = jn v) (hv : -128 ≤ v ∧ v ≤ 127) (h : Q (if 48 ≤ v ∧ v ≤ 57 then 1 else 0)) : wp_X9_isDigit N Q x := by
  subst hx
  unfold wp_X9_isDigit wp_X9_isDigit_16 wp_X9_isDigit_17
  rw [li_48, li_57, jn_lt (by omega) (by omega), jn_lt (by omega) (by omega)]
  refine ⟨fun q => ⟨Or.inl rfl, ?_⟩, fun q => ⟨fun q2 => ⟨Or.inl rfl, ?_⟩, fun q2 => ⟨Or.inr rfl, ?_⟩⟩⟩
  · rwa [if_neg (by omega)] at h
  · rwa [if_neg (by omega)] at h
  · rwa [if_pos (by omega)] at h
theorem jn_255 {v : Int} (hv : -128 ≤ v ∧ v ≤ 127) : (jn v &&& (255 : Int32)) = jn (mk8 v) := by
  have : ∀ i : Fin 256, (jn ((i.val : Int) - 128) &&& (255 : Int32)) = jn (mk8 ((i.val : Int) - 128)) := by decide +kernel
  have := this ⟨(v + 128).toNat, by omega⟩
  dsimp only at this
  rwa [show (((v + 128).toNat : Nat) : Int) - 128 = v by omega] at this
section LEX
variable {N n : Nat} {b : Nat → Int} {bt : Nat → Int32}
theorem wl_readMark {p : Nat} {Q : Int32 → Int32 → Prop} {x s0 : Int32} (hn : n ≤ 400) (hB : ∀ i, i < n → bt i = jn (b i)) (bB : ∀ i, -128 ≤ b i ∧ b i ≤ 127) (hp : p < n) (h1 : ¬ (97 ≤ b p ∧ b p ≤ 122)) (h2 : ¬ (48 ≤ b p ∧ b p ≤ 57)) (hx : x = jn p) (h : Q (jn (en b n p)) (jn (sgn b n p))) : wp_X9_readMark N bt (jn n) Q x s0 := by
  subst hx
  have hb := bB p
  have hm : b p = 60 ∨ b p = 62 ∨ (b p ≠ 60 ∧ b p ≠ 62) := by omega
  unfold en sgn at h
  rw [if_neg (by omega), if_neg h1, if_neg h2, if_neg (show ¬ n ≤ p by omega), if_neg h1, if_neg h2] at h
  unfold wp_X9_readMark wp_X9_readMark_45 wp_X9_readMark_102 wp_X9_readMark_89
  rw [jn_cln (by omega), hB p hp, jn_255 hb]
  have e1 : (jn (p : Int) + (1 : Int32)) = jn ((p + 1 : Nat) : Int) := by (first | rfl | (simp (disch := omega) only [jn_add, jn_sub, jn_mul, jn_neg, li_0, li_1, li_2, li_3, li_4, li_5, li_6, li_7, li_8, li_9, li_10, li_11, li_12, li_13, li_14, li_15, li_16, li_17, li_18, li_20, li_24, li_29, li_30, li_31, li_32, li_37, li_39, li_40, li_42, li_43, li_45, li_46, li_47, li_48, li_53, li_57, li_59, li_60, li_61, li_62, li_63, li_80, li_81, li_91, li_93, li_97, li_100, li_122, li_200, li_255, li_256, li_257, li_258, li_259, li_260, li_300, li_314, li_400, li_580, li_999, li_5040, li_9999, li_65536, li_99999, li_7654321] <;> first | rfl | exact congrArg jn (by omega)) | exact congrArg jn (by omega))
  rw [e1]
  have two : ∀ (s1 s2 : Int32), (b p = 60 ∨ b p = 62) → s2 = jn (if b p = 60 then 258 else 259 : Nat) → ((jn n ≤ jn ((p + 1 : Nat) : Int) → Q (jn ((p + 1 : Nat) : Int)) (jn (mk8 (b p)))) ∧ (¬ (jn n ≤ jn ((p + 1 : Nat) : Int)) → vp_in (jn ((p + 1 : Nat) : Int)) 400 ∧ (((bt (jn ((p + 1 : Nat) : Int)).toNatClampNeg) = (61 : Int32) → Q (jn ((p + 1 : Nat) : Int) + (1 : Int32)) s2) ∧ (¬ ((bt (jn ((p + 1 : Nat) : Int)).toNatClampNeg) = (61 : Int32)) → Q (jn ((p + 1 : Nat) : Int)) (jn (mk8 (b p))))))) := by
    intro s1 s2 hs e2
    refine ⟨fun q => ?_, fun q => ?_⟩
    · simp (disch := omega) only [jn_le, jn_lt, jn_eq, jn_in, jn_add, jn_sub, jn_mul, jn_neg, li_0, li_1, li_2, li_3, li_4, li_5, li_6, li_7, li_8, li_9, li_10, li_11, li_12, li_13, li_14, li_15, li_16, li_17, li_18, li_20, li_24, li_29, li_30, li_31, li_32, li_37, li_39, li_40, li_42, li_43, li_45, li_46, li_47, li_48, li_53, li_57, li_59, li_60, li_61, li_62, li_63, li_80, li_81, li_91, li_93, li_97, li_100, li_122, li_200, li_255, li_256, li_257, li_258, li_259, li_260, li_300, li_314, li_400, li_580, li_999, li_5040, li_9999, li_65536, li_99999, li_7654321] at q
      rw [if_neg (by omega), if_neg (by omega)] at h; exact h
    · simp (disch := omega) only [jn_le, jn_lt, jn_eq, jn_in, jn_add, jn_sub, jn_mul, jn_neg, li_0, li_1, li_2, li_3, li_4, li_5, li_6, li_7, li_8, li_9, li_10, li_11, li_12, li_13, li_14, li_15, li_16, li_17, li_18, li_20, li_24, li_29, li_30, li_31, li_32, li_37, li_39, li_40, li_42, li_43, li_45, li_46, li_47, li_48, li_53, li_57, li_59, li_60, li_61, li_62, li_63, li_80, li_81, li_91, li_93, li_97, li_100, li_122, li_200, li_255, li_256, li_257, li_258, li_259, li_260, li_300, li_314, li_400, li_580, li_999, li_5040, li_9999, li_65536, li_99999, li_7654321] at q
      have hb2 := bB (p + 1)
      rw [jn_cln (by omega), hB _ (by omega), show (61 : Int32) = jn 61 from rfl, jn_eq (by omega) (by omega)]
      refine ⟨by simp (disch := omega) only [jn_le, jn_lt, jn_eq, jn_in, jn_add, jn_sub, jn_mul, jn_neg, li_0, li_1, li_2, li_3, li_4, li_5, li_6, li_7, li_8, li_9, li_10, li_11, li_12, li_13, li_14, li_15, li_16, li_17, li_18, li_20, li_24, li_29, li_30, li_31, li_32, li_37, li_39, li_40, li_42, li_43, li_45, li_46, li_47, li_48, li_53, li_57, li_59, li_60, li_61, li_62, li_63, li_80, li_81, li_91, li_93, li_97, li_100, li_122, li_200, li_255, li_256, li_257, li_258, li_259, li_260, li_300, li_314, li_400, li_580, li_999, li_5040, li_9999, li_65536, li_99999, li_7654321] <;> omega, fun q2 => ?_, fun q2 => ?_⟩
      · rw [if_pos ⟨hs, by omega, q2⟩, if_pos ⟨hs, by omega, q2⟩] at h
        rw [e2, show (jn ((p + 1 : Nat) : Int) + (1 : Int32)) = jn ((p + 2 : Nat) : Int) from by (first | rfl | (simp (disch := omega) only [jn_add, jn_sub, jn_mul, jn_neg, li_0, li_1, li_2, li_3, li_4, li_5, li_6, li_7, li_8, li_9, li_10, li_11, li_12, li_13, li_14, li_15, li_16, li_17, li_18, li_20, li_24, li_29, li_30, li_31, li_32, li_37, li_39, li_40, li_42, li_43, li_45, li_46, li_47, li_48, li_53, li_57, li_59, li_60, li_61, li_62, li_63, li_80, li_81, li_91, li_93, li_97, li_100, li_122, li_200, li_255, li_256, li_257, li_258, li_259, li_260, li_300, li_314, li_400, li_580, li_999, li_5040, li_9999, li_65536, li_99999, li_7654321] <;> first | rfl | exact congrArg jn (by omega)) | exact congrArg jn (by omega))]; exact h
      · rw [if_neg (fun z => q2 z.2.2), if_neg (fun z => q2 z.2.2)] at h; exact h
  have e60 : (jn (mk8 (b p)) = (60 : Int32)) = (b p = 60) := by
    have := mk8_lt (x := b p)
    rw [show (60 : Int32) = jn 60 from rfl, jn_eq (by omega) (by omega)]
    unfold mk8
    exact propext ⟨fun _ => by omega, fun _ => by omega⟩
  have e62 : (jn (mk8 (b p)) = (62 : Int32)) = (b p = 62) := by
    have := mk8_lt (x := b p)
    rw [show (62 : Int32) = jn 62 from rfl, jn_eq (by omega) (by omega)]
    unfold mk8
    exact propext ⟨fun _ => by omega, fun _ => by omega⟩
  rw [e60, e62]
  refine ⟨by rw [jn_in (by omega)]; omega, fun q => ?_, fun q => ⟨fun q2 => ?_, fun q2 => ?_⟩⟩
  · have t := two 0 258 (Or.inl q) (by rw [if_pos q]; rfl)
    refine ⟨t.1, fun z => ⟨(t.2 z).1, fun z2 => ⟨fun _ => (t.2 z).2.1 z2, fun z3 => absurd q z3⟩, (t.2 z).2.2⟩⟩
  · have t := two 0 259 (Or.inr q2) (by rw [if_neg q]; rfl)
    refine ⟨t.1, fun z => ⟨(t.2 z).1, fun z2 => ⟨fun z3 => absurd z3 q, fun _ => (t.2 z).2.1 z2⟩, (t.2 z).2.2⟩⟩
  · rw [if_neg (by omega), if_neg (by omega)] at h; exact h
theorem wl_readNumber {p : Nat} {Q : Int32 → Int32 → Int32 → Prop} {x s0 u0 : Int32} (hN : 500 ≤ N) (hn : n ≤ 400) (hB : ∀ i, i < n → bt i = jn (b i)) (bB : ∀ i, -128 ≤ b i ∧ b i ≤ 127) (hp : p < n) (hx : x = jn p) (h : Q (jn ((p + dl b n p : Nat) : Int)) 257 (jn (numb b n p))) : wp_X9_readNumber N bt (jn n) x Q x s0 u0 := by
  subst hx
  have hdl := dl_le (b := b) (n := n) (p := p)
  have key : ∀ (m i : Nat) (v u : Int32), v = jn ((p + i : Nat) : Int) → u = jn (nv b p (min i 5)) → i ≤ dl b n p → n - p < m + i → wp_X9_readNumber_12 N bt (jn n) (jn p) Q m v 257 u := by
    intro m
    induction m with
    | zero => intro i v u _ _ h1 h2; omega
    | succ m ih =>
      intro i v u hv hu h1 h2
      unfold wp_X9_readNumber_12 wp_X9_readNumber_88 wp_X9_readNumber_106 wp_X9_readNumber_75
      subst hv
      have fin : i = dl b n p → (((jn ((p + i : Nat) : Int) - jn p) ≤ (5 : Int32) → Q (jn ((p + i : Nat) : Int)) 257 u) ∧ (¬ ((jn ((p + i : Nat) : Int) - jn p) ≤ (5 : Int32)) → Q (jn ((p + i : Nat) : Int)) 257 (-1 : Int32))) := by
        intro e
        rw [show jn ((p + i : Nat) : Int) - jn p = jn (i : Int) by rw [jn_sub]; exact congrArg jn (by omega), li_5, jn_le (by omega) (by omega)]
        refine ⟨fun q => ?_, fun q => ?_⟩
        · unfold numb at h
          rw [← e, if_pos (by omega)] at h
          rw [hu, show min i 5 = i by omega]; exact h
        · unfold numb at h
          rw [← e, if_neg (by omega)] at h
          exact h
      refine ⟨fun q => ?_, fun q => ?_⟩
      · simp (disch := omega) only [jn_le, jn_lt, jn_eq, jn_in, jn_add, jn_sub, jn_mul, jn_neg, li_0, li_1, li_2, li_3, li_4, li_5, li_6, li_7, li_8, li_9, li_10, li_11, li_12, li_13, li_14, li_15, li_16, li_17, li_18, li_20, li_24, li_29, li_30, li_31, li_32, li_37, li_39, li_40, li_42, li_43, li_45, li_46, li_47, li_48, li_53, li_57, li_59, li_60, li_61, li_62, li_63, li_80, li_81, li_91, li_93, li_97, li_100, li_122, li_200, li_255, li_256, li_257, li_258, li_259, li_260, li_300, li_314, li_400, li_580, li_999, li_5040, li_9999, li_65536, li_99999, li_7654321] at q
        exact fin (by omega)
      · simp (disch := omega) only [jn_le, jn_lt, jn_eq, jn_in, jn_add, jn_sub, jn_mul, jn_neg, li_0, li_1, li_2, li_3, li_4, li_5, li_6, li_7, li_8, li_9, li_10, li_11, li_12, li_13, li_14, li_15, li_16, li_17, li_18, li_20, li_24, li_29, li_30, li_31, li_32, li_37, li_39, li_40, li_42, li_43, li_45, li_46, li_47, li_48, li_53, li_57, li_59, li_60, li_61, li_62, li_63, li_80, li_81, li_91, li_93, li_97, li_100, li_122, li_200, li_255, li_256, li_257, li_258, li_259, li_260, li_300, li_314, li_400, li_580, li_999, li_5040, li_9999, li_65536, li_99999, li_7654321] at q
        have hb := bB (p + i)
        rw [jn_cln (by omega), hB _ (by omega)]
        refine ⟨by simp (disch := omega) only [jn_le, jn_lt, jn_eq, jn_in, jn_add, jn_sub, jn_mul, jn_neg, li_0, li_1, li_2, li_3, li_4, li_5, li_6, li_7, li_8, li_9, li_10, li_11, li_12, li_13, li_14, li_15, li_16, li_17, li_18, li_20, li_24, li_29, li_30, li_31, li_32, li_37, li_39, li_40, li_42, li_43, li_45, li_46, li_47, li_48, li_53, li_57, li_59, li_60, li_61, li_62, li_63, li_80, li_81, li_91, li_93, li_97, li_100, li_122, li_200, li_255, li_256, li_257, li_258, li_259, li_260, li_300, li_314, li_400, li_580, li_999, li_5040, li_9999, li_65536, li_99999, li_7654321] <;> omega, wl_isDigit rfl hb ⟨fun q2 => ?_, fun q2 => ?_⟩⟩
        · refine fin ?_
          have : ¬ (48 ≤ b (p + i) ∧ b (p + i) ≤ 57) := by
            intro z; rw [if_pos z] at q2; exact absurd q2 (by decide)
          have e : ¬ i < dl b n p := fun z => this (dl_all z)
          omega
        · have hd : 48 ≤ b (p + i) ∧ b (p + i) ≤ 57 := by
            by_cases z : 48 ≤ b (p + i) ∧ b (p + i) ≤ 57
            · exact z
            · rw [if_neg z] at q2; exact absurd rfl q2
          have hi : i < dl b n p := by
            by_cases z : i < dl b n p
            · exact z
            · have e : dl b n p = i := by omega
              have := lead_stop (f := fun i => decide (48 ≤ b (p + i) ∧ b (p + i) ≤ 57)) (n := n - p) (by show dl b n p < _; omega)
              rw [show lead _ (n - p) = i from e] at this
              exact absurd hd (of_decide_eq_false this)
          rw [show jn ((p + i : Nat) : Int) - jn p = jn (i : Int) by rw [jn_sub]; exact congrArg jn (by omega), li_5, jn_le (by omega) (by omega)]
          refine ⟨fun q3 => ?_, fun q3 => ⟨by simp (disch := omega) only [jn_le, jn_lt, jn_eq, jn_in, jn_add, jn_sub, jn_mul, jn_neg, li_0, li_1, li_2, li_3, li_4, li_5, li_6, li_7, li_8, li_9, li_10, li_11, li_12, li_13, li_14, li_15, li_16, li_17, li_18, li_20, li_24, li_29, li_30, li_31, li_32, li_37, li_39, li_40, li_42, li_43, li_45, li_46, li_47, li_48, li_53, li_57, li_59, li_60, li_61, li_62, li_63, li_80, li_81, li_91, li_93, li_97, li_100, li_122, li_200, li_255, li_256, li_257, li_258, li_259, li_260, li_300, li_314, li_400, li_580, li_999, li_5040, li_9999, li_65536, li_99999, li_7654321] <;> omega, ?_⟩⟩
          · exact ih (i + 1) _ _ (by rw [li_1, jn_add]; exact congrArg jn (by omega)) (by rw [hu, show min (i + 1) 5 = min i 5 by omega]) (by omega) (by omega)
          · refine ih (i + 1) _ _ (by rw [li_1, jn_add]; exact congrArg jn (by omega)) ?_ (by omega) (by omega)
            rw [hu, show min (i + 1) 5 = i + 1 by omega, show min i 5 = i by omega, show nv b p (i + 1) = 10 * nv b p i + (b (p + i) - 48).toNat from rfl]
            rw [li_10, li_48, jn_mul, jn_add, jn_sub]
            exact congrArg jn (by omega)
  unfold wp_X9_readNumber
  exact key N 0 _ _ rfl rfl (by omega) (by omega)
/-- how many letters are alike, of the first j -/
def alk (b : Nat → Int) (n p i j : Nat) : Nat := cnt (fun q => decide (wtx.getD (6 * i + q) 0 = wle b n p q)) j
theorem cnt_full {f : Nat → Bool} : ∀ {n : Nat}, cnt f n = n ↔ ∀ i, i < n → f i = true
  | 0 => ⟨fun _ i h => absurd h (by omega), fun _ => rfl⟩
  | n + 1 => by
    have h1 := cnt_le (f := f) (n := n)
    have ih := cnt_full (f := f) (n := n)
    unfold cnt
    constructor
    · intro h i hi
      split at h
      · by_cases e : i = n
        · subst e; assumption
        · exact ih.mp (by omega) i (by omega)
      · omega
    · intro h
      rw [if_pos (h n (by omega)), ih.mpr (fun i hi => h i (by omega))]
theorem alk_iff {b : Nat → Int} {n p i : Nat} : alk b n p i 6 = 6 ↔ wmt b n p i = true := by
  unfold alk
  rw [cnt_full, wmt_iff]
  exact ⟨fun h j hj => of_decide_eq_true (h j hj), fun h j hj => decide_eq_true (h j hj)⟩
theorem wl_readWord {p : Nat} {Q : Int32 → Int32 → Prop} {x s0 : Int32} (hN : 500 ≤ N) (hn : n ≤ 400) (hB : ∀ i, i < n → bt i = jn (b i)) (bB : ∀ i, -128 ≤ b i ∧ b i ≤ 127) (hp : p < n) (hx : x = jn p) (h : Q (jn ((p + wl b n p : Nat) : Int)) (jn ((if wl b n p ≤ 6 then wxf b n p 15 else 260 : Nat) : Int))) : wp_X9_readWord N bt (jn n) x Q x s0 := by
  subst hx
  have hwl := wl_le (b := b) (n := n) (p := p)
  have words : ∀ (m i : Nat) (v s : Int32), v = jn i → s = jn (wxf b n p i) → i ≤ 15 → (6 < wl b n p → i = 0) → 15 < m + i → wp_X9_readWord_48 N bt (jn n) (jn p) Q m v (jn ((p + wl b n p : Nat) : Int)) s := by
    intro m
    induction m with
    | zero => intro i v s _ _ h1 _ h2; omega
    | succ m ih =>
      intro i v s hv hs h1 h6 h2
      unfold wp_X9_readWord_48 wp_X9_readWord_160
      subst hv
      rw [show jn ((p + wl b n p : Nat) : Int) - jn p = jn (wl b n p : Int) by rw [jn_sub]; exact congrArg jn (by omega)]
      refine ⟨fun q => ?_, fun q => ⟨fun q2 => ?_, fun q2 => ?_⟩⟩
      · simp (disch := omega) only [jn_le, jn_lt, jn_eq, jn_in, jn_add, jn_sub, jn_mul, jn_neg, li_0, li_1, li_2, li_3, li_4, li_5, li_6, li_7, li_8, li_9, li_10, li_11, li_12, li_13, li_14, li_15, li_16, li_17, li_18, li_20, li_24, li_29, li_30, li_31, li_32, li_37, li_39, li_40, li_42, li_43, li_45, li_46, li_47, li_48, li_53, li_57, li_59, li_60, li_61, li_62, li_63, li_80, li_81, li_91, li_93, li_97, li_100, li_122, li_200, li_255, li_256, li_257, li_258, li_259, li_260, li_300, li_314, li_400, li_580, li_999, li_5040, li_9999, li_65536, li_99999, li_7654321] at q
        have e : i = 15 := by omega
        subst e
        rw [if_pos (by omega)] at h
        rw [hs]; exact h
      · simp (disch := omega) only [jn_le, jn_lt, jn_eq, jn_in, jn_add, jn_sub, jn_mul, jn_neg, li_0, li_1, li_2, li_3, li_4, li_5, li_6, li_7, li_8, li_9, li_10, li_11, li_12, li_13, li_14, li_15, li_16, li_17, li_18, li_20, li_24, li_29, li_30, li_31, li_32, li_37, li_39, li_40, li_42, li_43, li_45, li_46, li_47, li_48, li_53, li_57, li_59, li_60, li_61, li_62, li_63, li_80, li_81, li_91, li_93, li_97, li_100, li_122, li_200, li_255, li_256, li_257, li_258, li_259, li_260, li_300, li_314, li_400, li_580, li_999, li_5040, li_9999, li_65536, li_99999, li_7654321] at q2
        have e := h6 (by omega)
        subst e
        rw [if_neg (by omega)] at h
        rw [hs]; exact h
      · simp (disch := omega) only [jn_le, jn_lt, jn_eq, jn_in, jn_add, jn_sub, jn_mul, jn_neg, li_0, li_1, li_2, li_3, li_4, li_5, li_6, li_7, li_8, li_9, li_10, li_11, li_12, li_13, li_14, li_15, li_16, li_17, li_18, li_20, li_24, li_29, li_30, li_31, li_32, li_37, li_39, li_40, li_42, li_43, li_45, li_46, li_47, li_48, li_53, li_57, li_59, li_60, li_61, li_62, li_63, li_80, li_81, li_91, li_93, li_97, li_100, li_122, li_200, li_255, li_256, li_257, li_258, li_259, li_260, li_300, li_314, li_400, li_580, li_999, li_5040, li_9999, li_65536, li_99999, li_7654321] at q
        simp (disch := omega) only [jn_le, jn_lt, jn_eq, jn_in, jn_add, jn_sub, jn_mul, jn_neg, li_0, li_1, li_2, li_3, li_4, li_5, li_6, li_7, li_8, li_9, li_10, li_11, li_12, li_13, li_14, li_15, li_16, li_17, li_18, li_20, li_24, li_29, li_30, li_31, li_32, li_37, li_39, li_40, li_42, li_43, li_45, li_46, li_47, li_48, li_53, li_57, li_59, li_60, li_61, li_62, li_63, li_80, li_81, li_91, li_93, li_97, li_100, li_122, li_200, li_255, li_256, li_257, li_258, li_259, li_260, li_300, li_314, li_400, li_580, li_999, li_5040, li_9999, li_65536, li_99999, li_7654321] at q2
        have let1 : ∀ (m2 j : Nat) (a w : Int32), w = jn j → a = jn (alk b n p i j) → j ≤ 6 → 6 < m2 + j → wp_X9_readWord_72 N bt (jn n) (jn p) (wp_X9_readWord_48 N bt (jn n) (jn p) Q m) Q m2 (jn i) a w (jn ((p + wl b n p : Nat) : Int)) s := by
          intro m2
          induction m2 with
          | zero => intro j a w _ _ g1 g2; omega
          | succ m2 ih2 =>
            intro j a w hw ha g1 g2
            unfold wp_X9_readWord_72 wp_X9_readWord_154 wp_X9_readWord_107 wp_X9_readWord_131
            subst hw
            have hal := cnt_le (f := fun q => decide (wtx.getD (6 * i + q) 0 = wle b n p q)) (n := j)
            refine ⟨fun z => ?_, fun z => ?_⟩
            · simp (disch := omega) only [jn_le, jn_lt, jn_eq, jn_in, jn_add, jn_sub, jn_mul, jn_neg, li_0, li_1, li_2, li_3, li_4, li_5, li_6, li_7, li_8, li_9, li_10, li_11, li_12, li_13, li_14, li_15, li_16, li_17, li_18, li_20, li_24, li_29, li_30, li_31, li_32, li_37, li_39, li_40, li_42, li_43, li_45, li_46, li_47, li_48, li_53, li_57, li_59, li_60, li_61, li_62, li_63, li_80, li_81, li_91, li_93, li_97, li_100, li_122, li_200, li_255, li_256, li_257, li_258, li_259, li_260, li_300, li_314, li_400, li_580, li_999, li_5040, li_9999, li_65536, li_99999, li_7654321] at z
              have e : j = 6 := by omega
              subst e
              have hal : alk b n p i 6 ≤ 6 := hal
              rw [ha, li_6, jn_eq (by omega) (by omega)]
              refine ⟨fun z2 => ?_, fun z2 => ?_⟩
              · refine ih (i + 1) _ _ (by (first | rfl | (simp (disch := omega) only [jn_add, jn_sub, jn_mul, jn_neg, li_0, li_1, li_2, li_3, li_4, li_5, li_6, li_7, li_8, li_9, li_10, li_11, li_12, li_13, li_14, li_15, li_16, li_17, li_18, li_20, li_24, li_29, li_30, li_31, li_32, li_37, li_39, li_40, li_42, li_43, li_45, li_46, li_47, li_48, li_53, li_57, li_59, li_60, li_61, li_62, li_63, li_80, li_81, li_91, li_93, li_97, li_100, li_122, li_200, li_255, li_256, li_257, li_258, li_259, li_260, li_300, li_314, li_400, li_580, li_999, li_5040, li_9999, li_65536, li_99999, li_7654321] <;> first | rfl | exact congrArg jn (by omega)) | exact congrArg jn (by omega))) ?_ (by omega) (by omega) (by omega)
                rw [show wxf b n p (i + 1) = if wmt b n p i = true then 300 + i else wxf b n p i from rfl, if_pos (alk_iff.mp (by omega)), li_300, jn_add]; rfl
              · refine ih (i + 1) _ _ (by (first | rfl | (simp (disch := omega) only [jn_add, jn_sub, jn_mul, jn_neg, li_0, li_1, li_2, li_3, li_4, li_5, li_6, li_7, li_8, li_9, li_10, li_11, li_12, li_13, li_14, li_15, li_16, li_17, li_18, li_20, li_24, li_29, li_30, li_31, li_32, li_37, li_39, li_40, li_42, li_43, li_45, li_46, li_47, li_48, li_53, li_57, li_59, li_60, li_61, li_62, li_63, li_80, li_81, li_91, li_93, li_97, li_100, li_122, li_200, li_255, li_256, li_257, li_258, li_259, li_260, li_300, li_314, li_400, li_580, li_999, li_5040, li_9999, li_65536, li_99999, li_7654321] <;> first | rfl | exact congrArg jn (by omega)) | exact congrArg jn (by omega))) ?_ (by omega) (by omega) (by omega)
                rw [show wxf b n p (i + 1) = if wmt b n p i = true then 300 + i else wxf b n p i from rfl, if_neg (fun y => z2 (by have := alk_iff.mpr y; omega)), hs]
            · simp (disch := omega) only [jn_le, jn_lt, jn_eq, jn_in, jn_add, jn_sub, jn_mul, jn_neg, li_0, li_1, li_2, li_3, li_4, li_5, li_6, li_7, li_8, li_9, li_10, li_11, li_12, li_13, li_14, li_15, li_16, li_17, li_18, li_20, li_24, li_29, li_30, li_31, li_32, li_37, li_39, li_40, li_42, li_43, li_45, li_46, li_47, li_48, li_53, li_57, li_59, li_60, li_61, li_62, li_63, li_80, li_81, li_91, li_93, li_97, li_100, li_122, li_200, li_255, li_256, li_257, li_258, li_259, li_260, li_300, li_314, li_400, li_580, li_999, li_5040, li_9999, li_65536, li_99999, li_7654321] at z
              have ew : (jn (i : Int) * (6 : Int32)) + jn j = jn ((6 * i + j : Nat) : Int) := by
                rw [li_6, jn_mul, jn_add]; exact congrArg jn (by omega)
              have hw := wtx_b (6 * i + j) (by omega)
              have step : ∀ c : Int32, c = jn (wle b n p j) → ((ax_wd ax_txb (jn ((6 * i + j : Nat) : Int)).toNatClampNeg) = c → (∀ x2 : Int32, x2 = a + (1 : Int32) → wp_X9_readWord_72 N bt (jn n) (jn p) (wp_X9_readWord_48 N bt (jn n) (jn p) Q m) Q m2 (jn i) x2 (jn j + 1) (jn ((p + wl b n p : Nat) : Int)) s)) ∧ (¬ ((ax_wd ax_txb (jn ((6 * i + j : Nat) : Int)).toNatClampNeg) = c) → (∀ x2 : Int32, x2 = a + (0 : Int32) → wp_X9_readWord_72 N bt (jn n) (jn p) (wp_X9_readWord_48 N bt (jn n) (jn p) Q m) Q m2 (jn i) x2 (jn j + 1) (jn ((p + wl b n p : Nat) : Int)) s)) := by
                intro c hc
                have hr : -128 ≤ wle b n p j ∧ wle b n p j ≤ 127 := by
                  unfold wle
                  have := bB (p + j)
                  split <;> omega
                have ea : alk b n p i (j + 1) = alk b n p i j + (if decide (wtx.getD (6 * i + j) 0 = wle b n p j) = true then 1 else 0) := rfl
                rw [jn_cln (by omega), wtx_ok _ (by omega), hc, jn_eq (by omega) (by omega)]
                refine ⟨fun z2 y hy => ?_, fun z2 y hy => ?_⟩
                · refine ih2 (j + 1) _ _ (by (first | rfl | (simp (disch := omega) only [jn_add, jn_sub, jn_mul, jn_neg, li_0, li_1, li_2, li_3, li_4, li_5, li_6, li_7, li_8, li_9, li_10, li_11, li_12, li_13, li_14, li_15, li_16, li_17, li_18, li_20, li_24, li_29, li_30, li_31, li_32, li_37, li_39, li_40, li_42, li_43, li_45, li_46, li_47, li_48, li_53, li_57, li_59, li_60, li_61, li_62, li_63, li_80, li_81, li_91, li_93, li_97, li_100, li_122, li_200, li_255, li_256, li_257, li_258, li_259, li_260, li_300, li_314, li_400, li_580, li_999, li_5040, li_9999, li_65536, li_99999, li_7654321] <;> first | rfl | exact congrArg jn (by omega)) | exact congrArg jn (by omega))) ?_ (by omega) (by omega)
                  rw [hy, ha, ea, if_pos (decide_eq_true z2), li_1, jn_add]; rfl
                · refine ih2 (j + 1) _ _ (by (first | rfl | (simp (disch := omega) only [jn_add, jn_sub, jn_mul, jn_neg, li_0, li_1, li_2, li_3, li_4, li_5, li_6, li_7, li_8, li_9, li_10, li_11, li_12, li_13, li_14, li_15, li_16, li_17, li_18, li_20, li_24, li_29, li_30, li_31, li_32, li_37, li_39, li_40, li_42, li_43, li_45, li_46, li_47, li_48, li_53, li_57, li_59, li_60, li_61, li_62, li_63, li_80, li_81, li_91, li_93, li_97, li_100, li_122, li_200, li_255, li_256, li_257, li_258, li_259, li_260, li_300, li_314, li_400, li_580, li_999, li_5040, li_9999, li_65536, li_99999, li_7654321] <;> first | rfl | exact congrArg jn (by omega)) | exact congrArg jn (by omega))) ?_ (by omega) (by omega)
                  rw [hy, ha, ea, if_neg (by rw [decide_eq_true_iff]; exact z2), li_0, jn_add]
                  exact congrArg jn (by omega)
              rw [ew, show jn (p : Int) + jn j = jn ((p + j : Nat) : Int) by rw [jn_add]; rfl, jn_le (by omega) (by omega)]
              refine ⟨fun z2 => ?_, fun z2 => ⟨?_, ?_⟩⟩
              · have st := step 32 (by unfold wle; rw [if_neg (by omega)]; rfl)
                exact ⟨by simp (disch := omega) only [jn_le, jn_lt, jn_eq, jn_in, jn_add, jn_sub, jn_mul, jn_neg, li_0, li_1, li_2, li_3, li_4, li_5, li_6, li_7, li_8, li_9, li_10, li_11, li_12, li_13, li_14, li_15, li_16, li_17, li_18, li_20, li_24, li_29, li_30, li_31, li_32, li_37, li_39, li_40, li_42, li_43, li_45, li_46, li_47, li_48, li_53, li_57, li_59, li_60, li_61, li_62, li_63, li_80, li_81, li_91, li_93, li_97, li_100, li_122, li_200, li_255, li_256, li_257, li_258, li_259, li_260, li_300, li_314, li_400, li_580, li_999, li_5040, li_9999, li_65536, li_99999, li_7654321] <;> omega, st.1, st.2⟩
              · exact by simp (disch := omega) only [jn_le, jn_lt, jn_eq, jn_in, jn_add, jn_sub, jn_mul, jn_neg, li_0, li_1, li_2, li_3, li_4, li_5, li_6, li_7, li_8, li_9, li_10, li_11, li_12, li_13, li_14, li_15, li_16, li_17, li_18, li_20, li_24, li_29, li_30, li_31, li_32, li_37, li_39, li_40, li_42, li_43, li_45, li_46, li_47, li_48, li_53, li_57, li_59, li_60, li_61, li_62, li_63, li_80, li_81, li_91, li_93, li_97, li_100, li_122, li_200, li_255, li_256, li_257, li_258, li_259, li_260, li_300, li_314, li_400, li_580, li_999, li_5040, li_9999, li_65536, li_99999, li_7654321] <;> omega
              · have e2 : bt (jn ((p + j : Nat) : Int)).toNatClampNeg = jn (wle b n p j) := by
                  rw [jn_cln (by omega), hB _ (by omega)]; unfold wle; rw [if_pos (by omega)]
                have st := step _ e2
                exact ⟨by simp (disch := omega) only [jn_le, jn_lt, jn_eq, jn_in, jn_add, jn_sub, jn_mul, jn_neg, li_0, li_1, li_2, li_3, li_4, li_5, li_6, li_7, li_8, li_9, li_10, li_11, li_12, li_13, li_14, li_15, li_16, li_17, li_18, li_20, li_24, li_29, li_30, li_31, li_32, li_37, li_39, li_40, li_42, li_43, li_45, li_46, li_47, li_48, li_53, li_57, li_59, li_60, li_61, li_62, li_63, li_80, li_81, li_91, li_93, li_97, li_100, li_122, li_200, li_255, li_256, li_257, li_258, li_259, li_260, li_300, li_314, li_400, li_580, li_999, li_5040, li_9999, li_65536, li_99999, li_7654321] <;> omega, st.1, st.2⟩
        exact let1 N 0 _ _ rfl rfl (by omega) (by omega)
  have key : ∀ (m i : Nat) (v s : Int32), v = jn ((p + i : Nat) : Int) → i ≤ wl b n p → n - p < m + i → wp_X9_readWord_0 N bt (jn n) (jn p) Q m v s := by
    intro m
    induction m with
    | zero => intro i v s _ h1 h2; omega
    | succ m ih =>
      intro i v s hv h1 h2
      unfold wp_X9_readWord_0 wp_X9_readWord_39
      subst hv
      have fin : i = wl b n p → wp_X9_readWord_48 N bt (jn n) (jn p) Q N (0 : Int32) (jn ((p + i : Nat) : Int)) (260 : Int32) := by
        intro e
        rw [e]
        exact words N 0 _ _ rfl rfl (by omega) (fun _ => rfl) (by omega)
      refine ⟨fun q => ?_, fun q => ?_⟩
      · simp (disch := omega) only [jn_le, jn_lt, jn_eq, jn_in, jn_add, jn_sub, jn_mul, jn_neg, li_0, li_1, li_2, li_3, li_4, li_5, li_6, li_7, li_8, li_9, li_10, li_11, li_12, li_13, li_14, li_15, li_16, li_17, li_18, li_20, li_24, li_29, li_30, li_31, li_32, li_37, li_39, li_40, li_42, li_43, li_45, li_46, li_47, li_48, li_53, li_57, li_59, li_60, li_61, li_62, li_63, li_80, li_81, li_91, li_93, li_97, li_100, li_122, li_200, li_255, li_256, li_257, li_258, li_259, li_260, li_300, li_314, li_400, li_580, li_999, li_5040, li_9999, li_65536, li_99999, li_7654321] at q
        exact fin (by omega)
      · simp (disch := omega) only [jn_le, jn_lt, jn_eq, jn_in, jn_add, jn_sub, jn_mul, jn_neg, li_0, li_1, li_2, li_3, li_4, li_5, li_6, li_7, li_8, li_9, li_10, li_11, li_12, li_13, li_14, li_15, li_16, li_17, li_18, li_20, li_24, li_29, li_30, li_31, li_32, li_37, li_39, li_40, li_42, li_43, li_45, li_46, li_47, li_48, li_53, li_57, li_59, li_60, li_61, li_62, li_63, li_80, li_81, li_91, li_93, li_97, li_100, li_122, li_200, li_255, li_256, li_257, li_258, li_259, li_260, li_300, li_314, li_400, li_580, li_999, li_5040, li_9999, li_65536, li_99999, li_7654321] at q
        have hb := bB (p + i)
        rw [jn_cln (by omega), hB _ (by omega)]
        refine ⟨by simp (disch := omega) only [jn_le, jn_lt, jn_eq, jn_in, jn_add, jn_sub, jn_mul, jn_neg, li_0, li_1, li_2, li_3, li_4, li_5, li_6, li_7, li_8, li_9, li_10, li_11, li_12, li_13, li_14, li_15, li_16, li_17, li_18, li_20, li_24, li_29, li_30, li_31, li_32, li_37, li_39, li_40, li_42, li_43, li_45, li_46, li_47, li_48, li_53, li_57, li_59, li_60, li_61, li_62, li_63, li_80, li_81, li_91, li_93, li_97, li_100, li_122, li_200, li_255, li_256, li_257, li_258, li_259, li_260, li_300, li_314, li_400, li_580, li_999, li_5040, li_9999, li_65536, li_99999, li_7654321] <;> omega, wl_isLetter rfl hb ⟨fun q2 => ?_, fun q2 => ?_⟩⟩
        · refine fin ?_
          have : ¬ (97 ≤ b (p + i) ∧ b (p + i) ≤ 122) := by
            intro z; rw [if_pos z] at q2; exact absurd q2 (by decide)
          have e : ¬ i < wl b n p := fun z => this (wl_all z)
          omega
        · have hd : 97 ≤ b (p + i) ∧ b (p + i) ≤ 122 := by
            by_cases z : 97 ≤ b (p + i) ∧ b (p + i) ≤ 122
            · exact z
            · rw [if_neg z] at q2; exact absurd rfl q2
          have hi : i < wl b n p := by
            by_cases z : i < wl b n p
            · exact z
            · have e : wl b n p = i := by omega
              have := lead_stop (f := fun i => decide (97 ≤ b (p + i) ∧ b (p + i) ≤ 122)) (n := n - p) (by show wl b n p < _; omega)
              rw [show lead _ (n - p) = i from e] at this
              exact absurd hd (of_decide_eq_false this)
          exact ih (i + 1) _ _ (by rw [li_1, jn_add]; exact congrArg jn (by omega)) (by omega) (by omega)
  unfold wp_X9_readWord
  exact key N 0 _ _ rfl (by omega) (by omega)
end LEX
