/-! sources: from how many orders one leap leads here -/
def bkf (m : Nat) (LP BK O : Nat → Nat) (p : Nat) : Nat → Bool := fun j => decide (p + (j + 1) < m) && clf LP BK (O p) (O (p + (j + 1)))
def src (m sp : Nat) (LP BK O : Nat → Nat) (p : Nat) : Nat := lead (bkf m LP BK O p) sp
section SRC
variable {N m sp : Nat} {LP BK O : Nat → Nat} {sd : Nat → Int32}
theorem src_le {p : Nat} : src m sp LP BK O p ≤ sp := lead_le
theorem wl_backw {p : Nat} {K : Int32 → Prop} {x : Int32} {lp od bk : Nat → Int32} (hN : 20 ≤ N) (hm : m ≤ 7) (hsp : sp ≤ 6) (hL : ar m lp LP) (hO : ar m od O) (hB : ar m bk BK) (hLb : ∀ c, c < m → LP c ≤ 9999) (hBb : ∀ d, d < m → BK d ≤ 9999) (hP : Pm m O) (hp : p < m) (hx : x = jn p) (h : K (jn (src m sp LP BK O p : Int))) : wp_X11_backwardsFrom_N N (jn sp) (jn m) lp od bk K x := by
  have hOp := hP.1 p hp
  have key : ∀ (n k : Nat) (v3 v4 : Int32), v4 = jn ((k + 1 : Nat) : Int) → v3 = jn k → k ≤ sp → (∀ j, j < k → bkf m LP BK O p j = true) → 8 < n + k → wp_X11_backwardsFrom_N_18 N (jn sp) (jn m) lp od bk K n (jn p) (jn (O p)) v3 v4 := by
    intro n
    induction n with
    | zero => intro k v3 v4 _ _ h1 _ h2; omega
    | succ n ih =>
      intro k v3 v4 e4 e3 hk ha hn
      have out : (k = sp ∨ bkf m LP BK O p k = false) → K v3 := by
        intro q
        have : src m sp LP BK O p = k := lead_is hk ha q
        rw [this] at h
        rw [e3]; exact h
      unfold wp_X11_backwardsFrom_N_18 wp_X11_backwardsFrom_N_107
      subst e4
      rw [show jn (p : Int) + jn ((k + 1 : Nat) : Int) = jn ((p + (k + 1) : Nat) : Int) from by (first | rfl | (simp (disch := omega) only [jn_add, jn_sub, jn_mul, jn_neg, li_0, li_1, li_2, li_3, li_4, li_5, li_6, li_7, li_8, li_9, li_10, li_11, li_12, li_13, li_14, li_15, li_16, li_17, li_18, li_20, li_24, li_29, li_30, li_31, li_32, li_37, li_39, li_40, li_42, li_43, li_45, li_46, li_47, li_48, li_53, li_57, li_59, li_60, li_61, li_62, li_63, li_80, li_81, li_91, li_93, li_97, li_100, li_122, li_200, li_255, li_256, li_257, li_258, li_259, li_260, li_300, li_314, li_400, li_580, li_999, li_5040, li_9999, li_65536, li_99999, li_7654321] <;> first | rfl | exact congrArg jn (by omega)) | exact congrArg jn (by omega)), jn_lt (by omega) (by omega), jn_le (by omega) (by omega)]
      refine ⟨fun z => out (Or.inl (by omega)), fun z => ⟨fun y => out (Or.inr ?_), fun y => ⟨by simp (disch := omega) only [jn_le, jn_lt, jn_eq, jn_in, jn_add, jn_sub, jn_mul, jn_neg, li_0, li_1, li_2, li_3, li_4, li_5, li_6, li_7, li_8, li_9, li_10, li_11, li_12, li_13, li_14, li_15, li_16, li_17, li_18, li_20, li_24, li_29, li_30, li_31, li_32, li_37, li_39, li_40, li_42, li_43, li_45, li_46, li_47, li_48, li_53, li_57, li_59, li_60, li_61, li_62, li_63, li_80, li_81, li_91, li_93, li_97, li_100, li_122, li_200, li_255, li_256, li_257, li_258, li_259, li_260, li_300, li_314, li_400, li_580, li_999, li_5040, li_9999, li_65536, li_99999, li_7654321] <;> omega, fun x2 e2 => ?_⟩⟩⟩
      · unfold bkf
        rw [decide_eq_false (by omega), Bool.false_and]
      · have hOk := hP.1 (p + (k + 1)) (by omega)
        have b1 := hBb _ hOk
        have b2 := hLb _ hOp
        rw [jn_cln (by omega), hO _ (by omega)] at e2
        subst e2
        refine ⟨by simp (disch := omega) only [jn_le, jn_lt, jn_eq, jn_in, jn_add, jn_sub, jn_mul, jn_neg, li_0, li_1, li_2, li_3, li_4, li_5, li_6, li_7, li_8, li_9, li_10, li_11, li_12, li_13, li_14, li_15, li_16, li_17, li_18, li_20, li_24, li_29, li_30, li_31, li_32, li_37, li_39, li_40, li_42, li_43, li_45, li_46, li_47, li_48, li_53, li_57, li_59, li_60, li_61, li_62, li_63, li_80, li_81, li_91, li_93, li_97, li_100, li_122, li_200, li_255, li_256, li_257, li_258, li_259, li_260, li_300, li_314, li_400, li_580, li_999, li_5040, li_9999, li_65536, li_99999, li_7654321] <;> omega, by simp (disch := omega) only [jn_le, jn_lt, jn_eq, jn_in, jn_add, jn_sub, jn_mul, jn_neg, li_0, li_1, li_2, li_3, li_4, li_5, li_6, li_7, li_8, li_9, li_10, li_11, li_12, li_13, li_14, li_15, li_16, li_17, li_18, li_20, li_24, li_29, li_30, li_31, li_32, li_37, li_39, li_40, li_42, li_43, li_45, li_46, li_47, li_48, li_53, li_57, li_59, li_60, li_61, li_62, li_63, li_80, li_81, li_91, li_93, li_97, li_100, li_122, li_200, li_255, li_256, li_257, li_258, li_259, li_260, li_300, li_314, li_400, li_580, li_999, li_5040, li_9999, li_65536, li_99999, li_7654321] <;> omega, ?_⟩
        rw [jn_cln (by omega), jn_cln (by omega), hB _ hOk, hL _ hOp, jn_le (by omega) (by omega)]
        refine ⟨fun w => ?_, fun w => out (Or.inr ?_)⟩
        · refine ih (k + 1) _ _ (by (first | rfl | (simp (disch := omega) only [jn_add, jn_sub, jn_mul, jn_neg, li_0, li_1, li_2, li_3, li_4, li_5, li_6, li_7, li_8, li_9, li_10, li_11, li_12, li_13, li_14, li_15, li_16, li_17, li_18, li_20, li_24, li_29, li_30, li_31, li_32, li_37, li_39, li_40, li_42, li_43, li_45, li_46, li_47, li_48, li_53, li_57, li_59, li_60, li_61, li_62, li_63, li_80, li_81, li_91, li_93, li_97, li_100, li_122, li_200, li_255, li_256, li_257, li_258, li_259, li_260, li_300, li_314, li_400, li_580, li_999, li_5040, li_9999, li_65536, li_99999, li_7654321] <;> first | rfl | exact congrArg jn (by omega)) | exact congrArg jn (by omega))) (by rw [e3]; exact by (first | rfl | (simp (disch := omega) only [jn_add, jn_sub, jn_mul, jn_neg, li_0, li_1, li_2, li_3, li_4, li_5, li_6, li_7, li_8, li_9, li_10, li_11, li_12, li_13, li_14, li_15, li_16, li_17, li_18, li_20, li_24, li_29, li_30, li_31, li_32, li_37, li_39, li_40, li_42, li_43, li_45, li_46, li_47, li_48, li_53, li_57, li_59, li_60, li_61, li_62, li_63, li_80, li_81, li_91, li_93, li_97, li_100, li_122, li_200, li_255, li_256, li_257, li_258, li_259, li_260, li_300, li_314, li_400, li_580, li_999, li_5040, li_9999, li_65536, li_99999, li_7654321] <;> first | rfl | exact congrArg jn (by omega)) | exact congrArg jn (by omega))) (by omega) (fun j hj => ?_) (by omega)
          by_cases e : j = k
          · subst e
            unfold bkf clf
            rw [decide_eq_true (by omega), Bool.true_and]; exact decide_eq_true (by omega)
          · exact ha j (by omega)
        · unfold bkf clf
          rw [decide_eq_true (by omega), Bool.true_and]; exact decide_eq_false (by omega)
  unfold wp_X11_backwardsFrom_N
  subst hx
  refine ⟨by simp (disch := omega) only [jn_le, jn_lt, jn_eq, jn_in, jn_add, jn_sub, jn_mul, jn_neg, li_0, li_1, li_2, li_3, li_4, li_5, li_6, li_7, li_8, li_9, li_10, li_11, li_12, li_13, li_14, li_15, li_16, li_17, li_18, li_20, li_24, li_29, li_30, li_31, li_32, li_37, li_39, li_40, li_42, li_43, li_45, li_46, li_47, li_48, li_53, li_57, li_59, li_60, li_61, li_62, li_63, li_80, li_81, li_91, li_93, li_97, li_100, li_122, li_200, li_255, li_256, li_257, li_258, li_259, li_260, li_300, li_314, li_400, li_580, li_999, li_5040, li_9999, li_65536, li_99999, li_7654321] <;> omega, fun x1 e1 => ?_⟩
  rw [jn_cln (by omega), hO p hp] at e1
  subst e1
  exact key N 0 _ _ rfl rfl (by omega) (fun j hj => by omega) (by omega)
theorem wl_sources {K : Int32 → Prop} {lp od bk : Nat → Int32} (hN : 20 ≤ N) (hm : m ≤ 7) (hsp : sp ≤ 6) (hL : ar m lp LP) (hO : ar m od O) (hB : ar m bk BK) (hLb : ∀ c, c < m → LP c ≤ 9999) (hBb : ∀ d, d < m → BK d ≤ 9999) (hP : Pm m O) (h : K (jn (sumTo (src m sp LP BK O) m : Int))) : wp_X11_sources_N N 1 (jn sp) (jn m) lp od bk K := by
  unfold wp_X11_sources_N
  refine ⟨fun z => absurd z (by decide), fun _ => ?_⟩
  have key : ∀ (n p : Nat) (v1 v2 : Int32), v2 = jn p → p ≤ m → v1 = jn (sumTo (src m sp LP BK O) p : Int) → m < n + p → wp_X11_sources_N_19 N 1 (jn sp) (jn m) lp od bk K n v1 v2 := by
    intro n
    induction n with
    | zero => intro p v1 v2 _ h1 _ h2; omega
    | succ n ih =>
      intro p v1 v2 e2 hp e1 hn
      unfold wp_X11_sources_N_19
      subst e2
      refine ⟨fun z => ?_, fun z => ?_⟩
      · simp (disch := omega) only [jn_le, jn_lt, jn_eq, jn_in, jn_add, jn_sub, jn_mul, jn_neg, li_0, li_1, li_2, li_3, li_4, li_5, li_6, li_7, li_8, li_9, li_10, li_11, li_12, li_13, li_14, li_15, li_16, li_17, li_18, li_20, li_24, li_29, li_30, li_31, li_32, li_37, li_39, li_40, li_42, li_43, li_45, li_46, li_47, li_48, li_53, li_57, li_59, li_60, li_61, li_62, li_63, li_80, li_81, li_91, li_93, li_97, li_100, li_122, li_200, li_255, li_256, li_257, li_258, li_259, li_260, li_300, li_314, li_400, li_580, li_999, li_5040, li_9999, li_65536, li_99999, li_7654321] at z
        have e : p = m := by omega
        subst e; rw [e1]; exact h
      · simp (disch := omega) only [jn_le, jn_lt, jn_eq, jn_in, jn_add, jn_sub, jn_mul, jn_neg, li_0, li_1, li_2, li_3, li_4, li_5, li_6, li_7, li_8, li_9, li_10, li_11, li_12, li_13, li_14, li_15, li_16, li_17, li_18, li_20, li_24, li_29, li_30, li_31, li_32, li_37, li_39, li_40, li_42, li_43, li_45, li_46, li_47, li_48, li_53, li_57, li_59, li_60, li_61, li_62, li_63, li_80, li_81, li_91, li_93, li_97, li_100, li_122, li_200, li_255, li_256, li_257, li_258, li_259, li_260, li_300, li_314, li_400, li_580, li_999, li_5040, li_9999, li_65536, li_99999, li_7654321] at z
        refine wl_backw hN hm hsp hL hO hB hLb hBb hP (by omega) rfl (fun x2 q2 => ?_)
        refine ih (p + 1) _ _ (by (first | rfl | (simp (disch := omega) only [jn_add, jn_sub, jn_mul, jn_neg, li_0, li_1, li_2, li_3, li_4, li_5, li_6, li_7, li_8, li_9, li_10, li_11, li_12, li_13, li_14, li_15, li_16, li_17, li_18, li_20, li_24, li_29, li_30, li_31, li_32, li_37, li_39, li_40, li_42, li_43, li_45, li_46, li_47, li_48, li_53, li_57, li_59, li_60, li_61, li_62, li_63, li_80, li_81, li_91, li_93, li_97, li_100, li_122, li_200, li_255, li_256, li_257, li_258, li_259, li_260, li_300, li_314, li_400, li_580, li_999, li_5040, li_9999, li_65536, li_99999, li_7654321] <;> first | rfl | exact congrArg jn (by omega)) | exact congrArg jn (by omega))) (by omega) ?_ (by omega)
        rw [q2, e1, sumTo, jn_add]; rfl
  exact key N 0 _ _ rfl (by omega) rfl (by omega)
theorem wm_sources {K : Int32 → (Nat → Int32) → Prop} {rw' : Nat → Int32} (hN : 20 ≤ N) (hq : mQ m sp LP BK sd) (hs6 : sp ≤ 6) (hP : Pm m O) (hpl : ∀ p : Nat, p < m → sd (13 + 4 * O p) = jn p) (hla : sd 0 = 1) (h : ∀ rw2, K (jn (sumTo (src m sp LP BK O) m : Int)) rw2) : wp_X12_sources N sd K rw' := by
  have hm := hq.2.2.2.2.1
  unfold wp_X12_sources
  refine wm_isLane (t := 1) (by omega) (by rw [hla]; rfl) ⟨fun u => absurd u (by decide), fun _ => ?_⟩
  refine wm_rowNow hN hm hq.1 hP hpl (fun rw2 hR => ?_)
  have key : ∀ (n p : Nat) (v1 v2 : Int32), v2 = jn p → p ≤ m → v1 = jn (sumTo (src m sp LP BK O) p : Int) → m < n + p → wp_X12_sources_17 N sd K n v1 v2 rw2 := by
    intro n
    induction n with
    | zero => intro p v1 v2 _ h1 _ h2; omega
    | succ n ih =>
      intro p v1 v2 e2 hp e1 hn
      unfold wp_X12_sources_17
      subst e2
      rw [show (2 : Int32).toNatClampNeg = 2 from rfl, hq.1, jn_le (by omega) (by omega)]
      refine ⟨by unfold vp_in; decide, fun z => ?_, fun z => ?_⟩
      · have e : p = m := by omega
        subst e; rw [e1]; exact h rw2
      · have hpm : p < m := by omega
        have hsl := src_le (m := m) (sp := sp) (LP := LP) (BK := BK) (O := O) (p := p)
        have key2 : ∀ (k j : Nat) (v1 v3 : Int32), v3 = jn ((j + 1 : Nat) : Int) → j ≤ sp → v1 = jn ((sumTo (src m sp LP BK O) p + min j (src m sp LP BK O p) : Nat) : Int) → 8 < k + j → wp_X12_sources_29 N sd (wp_X12_sources_17 N sd K n) K k v1 (jn p) v3 rw2 := by
          intro k
          induction k with
          | zero => intro j v1 v3 _ h1 _ h2; omega
          | succ k ih2 =>
            intro j v1 v3 e3 hj e1' hk
            unfold wp_X12_sources_29 wp_X12_sources_57
            subst e3
            rw [show (1 : Int32).toNatClampNeg = 1 from rfl, hq.2.1, jn_lt (by omega) (by omega)]
            refine ⟨by unfold vp_in; decide, fun y => ?_, fun y => ?_⟩
            · refine ih (p + 1) _ _ (by (first | rfl | (simp (disch := omega) only [jn_add, jn_sub, jn_mul, jn_neg, li_0, li_1, li_2, li_3, li_4, li_5, li_6, li_7, li_8, li_9, li_10, li_11, li_12, li_13, li_14, li_15, li_16, li_17, li_18, li_20, li_24, li_29, li_30, li_31, li_32, li_37, li_39, li_40, li_42, li_43, li_45, li_46, li_47, li_48, li_53, li_57, li_59, li_60, li_61, li_62, li_63, li_80, li_81, li_91, li_93, li_97, li_100, li_122, li_200, li_255, li_256, li_257, li_258, li_259, li_260, li_300, li_314, li_400, li_580, li_999, li_5040, li_9999, li_65536, li_99999, li_7654321] <;> first | rfl | exact congrArg jn (by omega)) | exact congrArg jn (by omega))) (by omega) ?_ (by omega)
              rw [e1', sumTo]; exact congrArg jn (by omega)
            · rw [jn_add]
              refine wm_isLeapB hN hq hP.1 hR hpm (k := j + 1) (by omega) (by omega) rfl rfl rfl (fun a1 a2 a3 => ⟨fun u => absurd u (by decide), fun _ x4 e4 => ?_⟩) (fun hno => ⟨fun _ x4 e4 => ?_, fun u => absurd rfl u⟩)
              · have hle : j + 1 ≤ src m sp LP BK O p := by
                  by_cases q : j + 1 ≤ src m sp LP BK O p
                  · exact q
                  · have hs := lead_stop (f := bkf m LP BK O p) (n := sp) (show src m sp LP BK O p < sp by omega)
                    have hs' : bkf m LP BK O p (src m sp LP BK O p) = false := hs
                    unfold bkf at hs'
                    rw [decide_eq_true (by omega), Bool.true_and, a3 _ (by omega) (by omega)] at hs'
                    cases hs'
                refine ih2 (j + 1) _ _ (by (first | rfl | (simp (disch := omega) only [jn_add, jn_sub, jn_mul, jn_neg, li_0, li_1, li_2, li_3, li_4, li_5, li_6, li_7, li_8, li_9, li_10, li_11, li_12, li_13, li_14, li_15, li_16, li_17, li_18, li_20, li_24, li_29, li_30, li_31, li_32, li_37, li_39, li_40, li_42, li_43, li_45, li_46, li_47, li_48, li_53, li_57, li_59, li_60, li_61, li_62, li_63, li_80, li_81, li_91, li_93, li_97, li_100, li_122, li_200, li_255, li_256, li_257, li_258, li_259, li_260, li_300, li_314, li_400, li_580, li_999, li_5040, li_9999, li_65536, li_99999, li_7654321] <;> first | rfl | exact congrArg jn (by omega)) | exact congrArg jn (by omega))) (by omega) ?_ (by omega)
                rw [e4, e1', li_1, jn_add]; exact congrArg jn (by omega)
              · have hle : src m sp LP BK O p ≤ j := by
                  by_cases q : src m sp LP BK O p ≤ j
                  · exact q
                  · exfalso
                    have hl : ∀ i, i ≤ j → bkf m LP BK O p i = true := fun i hi => lead_all (f := bkf m LP BK O p) (n := sp) (show i < src m sp LP BK O p by omega)
                    refine hno ⟨?_, by omega, fun i b1 b2 => ?_⟩
                    · have := hl j (Nat.le_refl j)
                      unfold bkf at this
                      rw [Bool.and_eq_true, decide_eq_true_eq] at this
                      exact this.1
                    · have := hl (i - 1) (by omega)
                      unfold bkf at this
                      rw [Bool.and_eq_true, show i - 1 + 1 = i by omega] at this
                      exact this.2
                refine ih2 (j + 1) _ _ (by (first | rfl | (simp (disch := omega) only [jn_add, jn_sub, jn_mul, jn_neg, li_0, li_1, li_2, li_3, li_4, li_5, li_6, li_7, li_8, li_9, li_10, li_11, li_12, li_13, li_14, li_15, li_16, li_17, li_18, li_20, li_24, li_29, li_30, li_31, li_32, li_37, li_39, li_40, li_42, li_43, li_45, li_46, li_47, li_48, li_53, li_57, li_59, li_60, li_61, li_62, li_63, li_80, li_81, li_91, li_93, li_97, li_100, li_122, li_200, li_255, li_256, li_257, li_258, li_259, li_260, li_300, li_314, li_400, li_580, li_999, li_5040, li_9999, li_65536, li_99999, li_7654321] <;> first | rfl | exact congrArg jn (by omega)) | exact congrArg jn (by omega))) (by omega) ?_ (by omega)
                rw [e4, e1', li_0, jn_add]; exact congrArg jn (by omega)
        refine key2 N 0 _ _ rfl (by omega) ?_ (by omega)
        rw [e1]; exact congrArg jn (by omega)
  exact key N 0 _ _ rfl (by omega) rfl (by omega)
end SRC
