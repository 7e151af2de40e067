/-! the reference looks at a text: words and numbers -/
section ML3
variable {N n : Nat} {b : Nat → Int} {bt : Nat → Int32}
theorem en_word {p i : Nat} (hi : i < 15) (h : sgn b n p = 300 + i) : en b n p = p + wl b n p := by
  obtain ⟨h1, h2, -⟩ := (sgn_word hi).mp h
  unfold en
  rw [if_neg (by omega), if_pos h2]
theorem wm_takesWord {a i : Nat} {Q : Int32 → Int32 → Prop} {x : Int32} {w : Int64} (hN : 500 ≤ N) (hn : n ≤ 400) (hB : ∀ i, i < n → bt i = jn (b i)) (bB : ∀ i, -128 ≤ b i ∧ b i ≤ 127) (ha : a ≤ n) (hx : x = jn a) (hi : i < 15) (hw : w = jl ((wcs.getD i 0 : Nat) : Int)) (h0 : sgn b n (skp b n a) ≠ 300 + i → Q 0 (jn (skp b n a))) (h1 : sgn b n (skp b n a) = 300 + i → Q 1 (jn (en b n (skp b n a)))) : wp_X12_takesWord N bt (jn n) Q w x := by
  unfold wp_X12_takesWord
  refine wm_isWord hN hn hB bB ha hx hi hw ?_
  have hsk := skp_le (b := b) ha
  by_cases e : sgn b n (skp b n a) = 300 + i
  · rw [if_pos e]
    refine ⟨fun q => absurd q (by decide), fun _ => wm_passWord hN hn hB bB hsk.2 rfl ?_⟩
    rw [← en_word hi e]; exact h1 e
  · rw [if_neg e]
    exact ⟨fun _ => h0 e, fun q => absurd rfl q⟩
theorem wm_wordHere {a : Nat} {Q : Int32 → Int32 → Prop} {x : Int32} (hN : 500 ≤ N) (hn : n ≤ 400) (hB : ∀ i, i < n → bt i = jn (b i)) (bB : ∀ i, -128 ≤ b i ∧ b i ≤ 127) (ha : a ≤ n) (hx : x = jn a) (h1 : ∀ i : Nat, i < 10 → sgn b n (skp b n a) = 300 + i → Q (jn i) (jn (skp b n a))) (h0 : (∀ i : Nat, i < 10 → sgn b n (skp b n a) ≠ 300 + i) → Q (-1) (jn (skp b n a))) : wp_X12_wordHere N bt (jn n) Q x := by
  have hsk := skp_le (b := b) ha
  have hss := skp_skp (b := b) ha
  unfold wp_X12_wordHere wp_X12_wordHere_129
  have st : ∀ (i : Nat) (hi : i < 10) (x : Int32) (a' : Nat), a' ≤ n → skp b n a' = skp b n a → x = jn a' → ∀ (w : Int64), w = jl ((wcs.getD i 0 : Nat) : Int) → ∀ (Q' : Int32 → Int32 → Prop), (sgn b n (skp b n a) = 300 + i → Q' 1 (jn (skp b n a))) → (sgn b n (skp b n a) ≠ 300 + i → Q' 0 (jn (skp b n a))) → wp_X12_isWord N bt (jn n) Q' w x := by
    intro i hi x a' ha' he hx w hw Q' q1 q0
    refine wm_isWord hN hn hB bB ha' hx (by omega) hw ?_
    rw [he]
    by_cases e : sgn b n (skp b n a) = 300 + i
    · rw [if_pos e]; exact q1 e
    · rw [if_neg e]; exact q0 e
  refine st 0 (by omega) _ a ha rfl hx _ rfl _ (fun e => ⟨fun q => absurd q (by decide), fun _ => h1 0 (by omega) e⟩) (fun n0 => ⟨fun _ => ?_, fun q => absurd rfl q⟩)
  refine st 1 (by omega) _ _ hsk.2 hss rfl _ rfl _ (fun e => ⟨fun q => absurd q (by decide), fun _ => h1 1 (by omega) e⟩) (fun n1 => ⟨fun _ => ?_, fun q => absurd rfl q⟩)
  refine st 2 (by omega) _ _ hsk.2 hss rfl _ rfl _ (fun e => ⟨fun q => absurd q (by decide), fun _ => h1 2 (by omega) e⟩) (fun n2 => ⟨fun _ => ?_, fun q => absurd rfl q⟩)
  refine st 3 (by omega) _ _ hsk.2 hss rfl _ rfl _ (fun e => ⟨fun q => absurd q (by decide), fun _ => h1 3 (by omega) e⟩) (fun n3 => ⟨fun _ => ?_, fun q => absurd rfl q⟩)
  refine st 4 (by omega) _ _ hsk.2 hss rfl _ rfl _ (fun e => ⟨fun q => absurd q (by decide), fun _ => h1 4 (by omega) e⟩) (fun n4 => ⟨fun _ => ?_, fun q => absurd rfl q⟩)
  refine st 5 (by omega) _ _ hsk.2 hss rfl _ rfl _ (fun e => ⟨fun q => absurd q (by decide), fun _ => h1 5 (by omega) e⟩) (fun n5 => ⟨fun _ => ?_, fun q => absurd rfl q⟩)
  refine st 6 (by omega) _ _ hsk.2 hss rfl _ rfl _ (fun e => ⟨fun q => absurd q (by decide), fun _ => h1 6 (by omega) e⟩) (fun n6 => ⟨fun _ => ?_, fun q => absurd rfl q⟩)
  refine st 7 (by omega) _ _ hsk.2 hss rfl _ rfl _ (fun e => ⟨fun q => absurd q (by decide), fun _ => h1 7 (by omega) e⟩) (fun n7 => ⟨fun _ => ?_, fun q => absurd rfl q⟩)
  refine st 8 (by omega) _ _ hsk.2 hss rfl _ rfl _ (fun e => ⟨fun q => absurd q (by decide), fun _ => h1 8 (by omega) e⟩) (fun n8 => ⟨fun _ => ?_, fun q => absurd rfl q⟩)
  refine st 9 (by omega) _ _ hsk.2 hss rfl _ rfl _ (fun e => ⟨fun q => absurd q (by decide), fun _ => h1 9 (by omega) e⟩) (fun n9 => ⟨fun _ => ?_, fun q => absurd rfl q⟩)
  refine h0 (fun i hi => ?_)
  have : i = 0 ∨ i = 1 ∨ i = 2 ∨ i = 3 ∨ i = 4 ∨ i = 5 ∨ i = 6 ∨ i = 7 ∨ i = 8 ∨ i = 9 := by omega
  rcases this with e | e | e | e | e | e | e | e | e | e <;> subst e <;> assumption
theorem sgn_num {p : Nat} : sgn b n p = 257 ↔ p < n ∧ (48 ≤ b p ∧ b p ≤ 57) := by
  have h1 := wxf_r (b := b) (n := n) (p := p) (i := 15)
  have h8 := mk8_lt (x := b p)
  constructor
  · intro h
    unfold sgn at h
    split at h
    · omega
    · split at h
      · split at h <;> omega
      · split at h
        · rename_i q1 q2 q3; exact ⟨by omega, q3⟩
        · split at h
          · split at h <;> omega
          · omega
  · rintro ⟨a, c⟩
    unfold sgn
    rw [if_neg (by omega), if_neg (by omega), if_pos c]
theorem en_num {p : Nat} (h : sgn b n p = 257) : en b n p = p + dl b n p := by
  obtain ⟨h1, h2⟩ := sgn_num.mp h
  unfold en
  rw [if_neg (by omega), if_neg (by omega), if_pos h2]
/-- a number is read: it is none, it is wrong, it is as told -/
theorem wm_numberHere {a lo hi : Nat} {Q : Int32 → Int32 → Int32 → Int32 → Prop} {x y z u : Int32} (hN : 500 ≤ N) (hn : n ≤ 400) (hB : ∀ i, i < n → bt i = jn (b i)) (bB : ∀ i, -128 ≤ b i ∧ b i ≤ 127) (ha : a ≤ n) (hz : z = jn a) (hx : x = jn lo) (hy : y = jn hi) (hlo : lo < 100000) (hhi : hi < 100000)
    (h0 : sgn b n (skp b n a) ≠ 257 → Q 0 (jn (skp b n a)) (jn ((1 + 8 * skp b n a : Nat) : Int)) u)
    (h1 : sgn b n (skp b n a) = 257 → ¬ ((lo : Int) ≤ numb b n (skp b n a) ∧ numb b n (skp b n a) ≤ hi) → ∀ e v, Q 0 e (jn ((1 + 8 * skp b n a + 1 : Nat) : Int)) v)
    (h2 : sgn b n (skp b n a) = 257 → ((lo : Int) ≤ numb b n (skp b n a) ∧ numb b n (skp b n a) ≤ hi) → Q 1 (jn (en b n (skp b n a))) 0 (jn (numb b n (skp b n a)))) : wp_X12_numberHere N bt (jn n) Q x y z 0 u := by
  have hsk := skp_le (b := b) ha
  subst hx hy
  unfold wp_X12_numberHere
  refine wm_see hN hn hB bB ha hz ?_
  generalize skp b n a = p at hsk h0 h1 h2 ⊢
  refine wm_isDigit hn hB bB (by omega) rfl ?_
  by_cases hs : sgn b n p = 257
  · have hd := sgn_num.mp hs
    rw [if_pos hd]
    refine ⟨fun q => absurd q (by decide), fun _ => ?_⟩
    have hdl := dl_le (b := b) (n := n) (p := p)
    have key : ∀ (m j : Nat) (v s : Int32), v = jn ((p + j : Nat) : Int) → s = jn (nv b p (min j 5)) → j ≤ dl b n p → n - p < m + j → wp_X12_numberHere_34 N bt (jn n) Q m (jn lo) (jn hi) (jn p) s v 0 u := by
      intro m
      induction m with
      | zero => intro j v s _ _ g1 g2; omega
      | succ m ih =>
        intro j v s hv hu g1 g2
        unfold wp_X12_numberHere_34 wp_X12_numberHere_117 wp_X12_numberHere_126 wp_X12_numberHere_131 wp_X12_numberHere_75
        subst hv
        refine wm_isDigit hn hB bB (by omega) rfl ?_
        rw [show jn ((p + j : Nat) : Int) - jn p = jn (j : Int) by rw [jn_sub]; exact congrArg jn (by omega)]
        by_cases hj : j < dl b n p
        · rw [if_pos ((dl_in g1 hsk.2).mpr hj)]
          have hb := dl_all hj
          refine ⟨fun q => absurd q (by decide), fun _ => ⟨fun q => ?_, fun q => ?_⟩⟩
          · simp (disch := omega) only [jn_le, jn_lt, jn_eq, jn_in, jn_add, jn_sub, jn_mul, jn_neg, li_0, li_1, li_2, li_3, li_4, li_5, li_6, li_7, li_8, li_9, li_10, li_11, li_12, li_13, li_14, li_15, li_16, li_17, li_18, li_20, li_24, li_29, li_30, li_31, li_32, li_37, li_39, li_40, li_42, li_43, li_45, li_46, li_47, li_48, li_53, li_57, li_59, li_60, li_61, li_62, li_63, li_80, li_81, li_91, li_93, li_97, li_100, li_122, li_200, li_255, li_256, li_257, li_258, li_259, li_260, li_300, li_314, li_400, li_580, li_999, li_5040, li_9999, li_65536, li_99999, li_7654321] at q
            exact ih (j + 1) _ _ (by rw [li_1, jn_add]; exact congrArg jn (by omega)) (by rw [hu, show min (j + 1) 5 = min j 5 by omega]) (by omega) (by omega)
          · simp (disch := omega) only [jn_le, jn_lt, jn_eq, jn_in, jn_add, jn_sub, jn_mul, jn_neg, li_0, li_1, li_2, li_3, li_4, li_5, li_6, li_7, li_8, li_9, li_10, li_11, li_12, li_13, li_14, li_15, li_16, li_17, li_18, li_20, li_24, li_29, li_30, li_31, li_32, li_37, li_39, li_40, li_42, li_43, li_45, li_46, li_47, li_48, li_53, li_57, li_59, li_60, li_61, li_62, li_63, li_80, li_81, li_91, li_93, li_97, li_100, li_122, li_200, li_255, li_256, li_257, li_258, li_259, li_260, li_300, li_314, li_400, li_580, li_999, li_5040, li_9999, li_65536, li_99999, li_7654321] at q
            refine ⟨by simp (disch := omega) only [jn_le, jn_lt, jn_eq, jn_in, jn_add, jn_sub, jn_mul, jn_neg, li_0, li_1, li_2, li_3, li_4, li_5, li_6, li_7, li_8, li_9, li_10, li_11, li_12, li_13, li_14, li_15, li_16, li_17, li_18, li_20, li_24, li_29, li_30, li_31, li_32, li_37, li_39, li_40, li_42, li_43, li_45, li_46, li_47, li_48, li_53, li_57, li_59, li_60, li_61, li_62, li_63, li_80, li_81, li_91, li_93, li_97, li_100, li_122, li_200, li_255, li_256, li_257, li_258, li_259, li_260, li_300, li_314, li_400, li_580, li_999, li_5040, li_9999, li_65536, li_99999, li_7654321] <;> omega, fun y hy => ih (j + 1) _ _ (by rw [li_1, jn_add]; exact congrArg jn (by omega)) ?_ (by omega) (by omega)⟩
            rw [hy, hu, jn_cln (by omega), hB _ (by omega), show min (j + 1) 5 = j + 1 by omega, show min j 5 = j by omega, show nv b p (j + 1) = 10 * nv b p j + (b (p + j) - 48).toNat from rfl]
            rw [li_10, li_48, jn_mul, jn_add, jn_sub]
            exact congrArg jn (by omega)
        · have e : j = dl b n p := by omega
          rw [if_neg (fun z => hj ((dl_in g1 hsk.2).mp z))]
          refine ⟨fun _ => ⟨fun q => ?_, fun q => ?_⟩, fun q => absurd rfl q⟩
          · simp (disch := omega) only [jn_le, jn_lt, jn_eq, jn_in, jn_add, jn_sub, jn_mul, jn_neg, li_0, li_1, li_2, li_3, li_4, li_5, li_6, li_7, li_8, li_9, li_10, li_11, li_12, li_13, li_14, li_15, li_16, li_17, li_18, li_20, li_24, li_29, li_30, li_31, li_32, li_37, li_39, li_40, li_42, li_43, li_45, li_46, li_47, li_48, li_53, li_57, li_59, li_60, li_61, li_62, li_63, li_80, li_81, li_91, li_93, li_97, li_100, li_122, li_200, li_255, li_256, li_257, li_258, li_259, li_260, li_300, li_314, li_400, li_580, li_999, li_5040, li_9999, li_65536, li_99999, li_7654321] at q
            refine wm_fails (kd := 1) rfl rfl ⟨fun _ => ⟨Or.inl rfl, ?_⟩, fun q => absurd rfl q⟩
            refine h1 hs (fun y => ?_) _ _
            unfold numb at y
            rw [if_neg (by omega)] at y
            omega
          · simp (disch := omega) only [jn_le, jn_lt, jn_eq, jn_in, jn_add, jn_sub, jn_mul, jn_neg, li_0, li_1, li_2, li_3, li_4, li_5, li_6, li_7, li_8, li_9, li_10, li_11, li_12, li_13, li_14, li_15, li_16, li_17, li_18, li_20, li_24, li_29, li_30, li_31, li_32, li_37, li_39, li_40, li_42, li_43, li_45, li_46, li_47, li_48, li_53, li_57, li_59, li_60, li_61, li_62, li_63, li_80, li_81, li_91, li_93, li_97, li_100, li_122, li_200, li_255, li_256, li_257, li_258, li_259, li_260, li_300, li_314, li_400, li_580, li_999, li_5040, li_9999, li_65536, li_99999, li_7654321] at q
            have en' : numb b n p = (nv b p j : Nat) := by unfold numb; rw [← e, if_pos (by omega)]
            have hr := numb_r (b := b) (n := n) (p := p)
            rw [hu, show min j 5 = j by omega]
            refine wm_in (a := (nv b p j : Nat)) (b := lo) (c := hi) (jn_l (by omega)) (jn_l (by omega)) (jn_l (by omega)) (by omega) (by omega) (by omega) ?_
            refine ⟨fun q2 => ?_, fun q2 => ⟨Or.inr rfl, ?_⟩⟩
            · have y : ¬ ((lo : Int) ≤ (nv b p j : Nat) ∧ ((nv b p j : Nat) : Int) ≤ hi) := by
                intro y; rw [if_pos y] at q2; exact absurd q2 (by decide)
              refine wm_fails (kd := 1) rfl rfl ⟨fun _ => ⟨Or.inl rfl, ?_⟩, fun q => absurd rfl q⟩
              exact h1 hs (by rw [en']; exact y) _ _
            · have y : ((lo : Int) ≤ (nv b p j : Nat) ∧ ((nv b p j : Nat) : Int) ≤ hi) := by
                by_cases y : ((lo : Int) ≤ (nv b p j : Nat) ∧ ((nv b p j : Nat) : Int) ≤ hi)
                · exact y
                · rw [if_neg y] at q2; exact absurd rfl q2
              have := h2 hs (by rw [en']; exact y)
              rw [en', en_num hs, ← e] at this
              exact this
    exact key N 0 _ _ rfl rfl (by omega) (by omega)
  · rw [if_neg (fun y => hs (sgn_num.mpr y))]
    refine ⟨fun _ => ?_, fun q => absurd rfl q⟩
    exact wm_fails (kd := 0) rfl rfl ⟨Or.inl rfl, h0 hs⟩
end ML3
