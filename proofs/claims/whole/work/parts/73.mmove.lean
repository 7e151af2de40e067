/-! the reference: an order's number when one is told, when one leaps, or before they leapt -/
/-- the one at place p was so many backs behind -/
def bk (r : Nat → Nat) (p k : Nat) : Nat → Nat := fun q => if q = p + k then r p else if p ≤ q ∧ q < p + k then r (q + 1) else r q
theorem mv_bk {r : Nat → Nat} {p k : Nat} : mv (bk r p k) (p + k) k = r := by
  funext q
  unfold mv
  by_cases e : q = p + k - k
  · rw [if_pos e]; unfold bk; rw [if_pos rfl]; congr 1; omega
  · rw [if_neg e]
    by_cases e2 : p + k - k < q ∧ q ≤ p + k
    · rw [if_pos e2]; unfold bk; rw [if_neg (by omega), if_pos (by omega)]; congr 1; omega
    · rw [if_neg e2]; unfold bk; rw [if_neg (by omega), if_neg (by omega)]
theorem bk_Pm {m : Nat} {r : Nat → Nat} {p k : Nat} (h : Pm m r) (hp : p + k < m) : Pm m (bk r p k) := by
  obtain ⟨h1, h2, h3⟩ := h
  have hin : ∀ q s, q < m → s < m → bk r p k q = bk r p k s → q = s := by
    intro q s hq hs e
    unfold bk at e
    (repeat' split at e) <;> first | omega | (have := h2 _ _ (by omega) (by omega) e; omega)
  refine ⟨fun q hq => ?_, hin, fun c hc => ?_⟩
  · unfold bk
    split
    · exact h1 p (by omega)
    · split
      · exact h1 _ (by omega)
      · exact h1 q hq
  · obtain ⟨s, hs, rfl⟩ := h3 c hc
    by_cases e1 : s = p
    · exact ⟨p + k, hp, by unfold bk; rw [if_pos rfl, e1]⟩
    · by_cases e2 : p < s ∧ s ≤ p + k
      · refine ⟨s - 1, by omega, ?_⟩
        unfold bk
        rw [if_neg (by omega), if_pos (by omega)]
        congr 1; omega
      · refine ⟨s, hs, ?_⟩
        unfold bk
        rw [if_neg (by omega), if_neg (by omega)]
section MMV
variable {N m : Nat} {r : Nat → Nat} {sd : Nat → Int32}
theorem wm_orderOf {rw' : Nat → Int32} {Q : Int32 → (Nat → Int32) → Prop} {x : Int32} (hN : 20 ≤ N) (hm : m ≤ 7) (hsd : sd 2 = jn m) (hr : Pm m r) (hx : x = jn (rk m r : Int)) (h : ∀ rw2, Q (jn (onum r m : Int)) rw2) : wp_X12_orderOf N sd Q x rw' := by
  unfold wp_X12_orderOf
  refine wm_rowOf hN hm hsd hr hx (fun rw2 hR => ?_)
  have key : ∀ (n i : Nat) (v2 v3 : Int32), v3 = jn i → i ≤ m → v2 = jn (onum r i : Int) → m < n + i → wp_X12_orderOf_9 N sd Q n v2 v3 rw2 := by
    intro n
    induction n with
    | zero => intro i v2 v3 _ h1 _ h2; omega
    | succ n ih =>
      intro i v2 v3 e3 hi e2 hn
      unfold wp_X12_orderOf_9
      subst e3
      rw [show (2 : Int32).toNatClampNeg = 2 from rfl, hsd]
      refine ⟨by unfold vp_in; decide, fun z => ?_, fun z => ?_⟩
      · simp (disch := omega) only [jn_le, jn_lt, jn_eq, jn_in, jn_add, jn_sub, jn_mul, jn_neg, li_0, li_1, li_2, li_3, li_4, li_5, li_6, li_7, li_8, li_9, li_10, li_11, li_12, li_13, li_14, li_15, li_16, li_17, li_18, li_20, li_24, li_29, li_30, li_31, li_32, li_37, li_39, li_40, li_42, li_43, li_45, li_46, li_47, li_48, li_53, li_57, li_59, li_60, li_61, li_62, li_63, li_80, li_81, li_91, li_93, li_97, li_100, li_122, li_200, li_255, li_256, li_257, li_258, li_259, li_260, li_300, li_314, li_400, li_580, li_999, li_5040, li_9999, li_65536, li_99999, li_7654321] at z
        have e : i = m := by omega
        subst e; rw [e2]; exact h rw2
      · simp (disch := omega) only [jn_le, jn_lt, jn_eq, jn_in, jn_add, jn_sub, jn_mul, jn_neg, li_0, li_1, li_2, li_3, li_4, li_5, li_6, li_7, li_8, li_9, li_10, li_11, li_12, li_13, li_14, li_15, li_16, li_17, li_18, li_20, li_24, li_29, li_30, li_31, li_32, li_37, li_39, li_40, li_42, li_43, li_45, li_46, li_47, li_48, li_53, li_57, li_59, li_60, li_61, li_62, li_63, li_80, li_81, li_91, li_93, li_97, li_100, li_122, li_200, li_255, li_256, li_257, li_258, li_259, li_260, li_300, li_314, li_400, li_580, li_999, li_5040, li_9999, li_65536, li_99999, li_7654321] at z
        refine ⟨by simp (disch := omega) only [jn_le, jn_lt, jn_eq, jn_in, jn_add, jn_sub, jn_mul, jn_neg, li_0, li_1, li_2, li_3, li_4, li_5, li_6, li_7, li_8, li_9, li_10, li_11, li_12, li_13, li_14, li_15, li_16, li_17, li_18, li_20, li_24, li_29, li_30, li_31, li_32, li_37, li_39, li_40, li_42, li_43, li_45, li_46, li_47, li_48, li_53, li_57, li_59, li_60, li_61, li_62, li_63, li_80, li_81, li_91, li_93, li_97, li_100, li_122, li_200, li_255, li_256, li_257, li_258, li_259, li_260, li_300, li_314, li_400, li_580, li_999, li_5040, li_9999, li_65536, li_99999, li_7654321] <;> omega, fun x2 q2 => ?_⟩
        refine ih (i + 1) _ _ (by (first | rfl | (simp (disch := omega) only [jn_add, jn_sub, jn_mul, jn_neg, li_0, li_1, li_2, li_3, li_4, li_5, li_6, li_7, li_8, li_9, li_10, li_11, li_12, li_13, li_14, li_15, li_16, li_17, li_18, li_20, li_24, li_29, li_30, li_31, li_32, li_37, li_39, li_40, li_42, li_43, li_45, li_46, li_47, li_48, li_53, li_57, li_59, li_60, li_61, li_62, li_63, li_80, li_81, li_91, li_93, li_97, li_100, li_122, li_200, li_255, li_256, li_257, li_258, li_259, li_260, li_300, li_314, li_400, li_580, li_999, li_5040, li_9999, li_65536, li_99999, li_7654321] <;> first | rfl | exact congrArg jn (by omega)) | exact congrArg jn (by omega))) (by omega) ?_ (by omega)
        rw [q2, jn_cln (by omega), hR i (by omega), e2, onum]
        exact by (first | rfl | (simp (disch := omega) only [jn_add, jn_sub, jn_mul, jn_neg, li_0, li_1, li_2, li_3, li_4, li_5, li_6, li_7, li_8, li_9, li_10, li_11, li_12, li_13, li_14, li_15, li_16, li_17, li_18, li_20, li_24, li_29, li_30, li_31, li_32, li_37, li_39, li_40, li_42, li_43, li_45, li_46, li_47, li_48, li_53, li_57, li_59, li_60, li_61, li_62, li_63, li_80, li_81, li_91, li_93, li_97, li_100, li_122, li_200, li_255, li_256, li_257, li_258, li_259, li_260, li_300, li_314, li_400, li_580, li_999, li_5040, li_9999, li_65536, li_99999, li_7654321] <;> first | rfl | exact congrArg jn (by omega)) | exact congrArg jn (by omega))
  exact key N 0 _ _ rfl (by omega) rfl (by omega)
theorem wm_rowNow {rw' : Nat → Int32} {Q : (Nat → Int32) → Prop} (hN : 20 ≤ N) (hm : m ≤ 7) (hsd : sd 2 = jn m) (hr : Pm m r) (hpl : ∀ p : Nat, p < m → sd (13 + 4 * r p) = jn p) (h : ∀ rw2, ar m rw2 r → Q rw2) : wp_X12_rowNow N sd Q rw' := by
  unfold wp_X12_rowNow
  have key : ∀ (n c : Nat) (v1 : Int32) (rw' : Nat → Int32), v1 = jn c → c ≤ m → (∀ p, p < m → r p < c → rw' p = jn (r p : Int)) → m < n + c → wp_X12_rowNow_2 N sd Q n v1 rw' := by
    intro n
    induction n with
    | zero => intro c v1 rw' _ h1 _ h2; omega
    | succ n ih =>
      intro c v1 rw' e1 hc hR hn
      unfold wp_X12_rowNow_2
      subst e1
      rw [show (2 : Int32).toNatClampNeg = 2 from rfl, hsd]
      refine ⟨by unfold vp_in; decide, fun z => ?_, fun z => ?_⟩
      · simp (disch := omega) only [jn_le, jn_lt, jn_eq, jn_in, jn_add, jn_sub, jn_mul, jn_neg, li_0, li_1, li_2, li_3, li_4, li_5, li_6, li_7, li_8, li_9, li_10, li_11, li_12, li_13, li_14, li_15, li_16, li_17, li_18, li_20, li_24, li_29, li_30, li_31, li_32, li_37, li_39, li_40, li_42, li_43, li_45, li_46, li_47, li_48, li_53, li_57, li_59, li_60, li_61, li_62, li_63, li_80, li_81, li_91, li_93, li_97, li_100, li_122, li_200, li_255, li_256, li_257, li_258, li_259, li_260, li_300, li_314, li_400, li_580, li_999, li_5040, li_9999, li_65536, li_99999, li_7654321] at z
        exact h rw' (fun p hp => hR p hp (by have := hr.1 p hp; omega))
      · simp (disch := omega) only [jn_le, jn_lt, jn_eq, jn_in, jn_add, jn_sub, jn_mul, jn_neg, li_0, li_1, li_2, li_3, li_4, li_5, li_6, li_7, li_8, li_9, li_10, li_11, li_12, li_13, li_14, li_15, li_16, li_17, li_18, li_20, li_24, li_29, li_30, li_31, li_32, li_37, li_39, li_40, li_42, li_43, li_45, li_46, li_47, li_48, li_53, li_57, li_59, li_60, li_61, li_62, li_63, li_80, li_81, li_91, li_93, li_97, li_100, li_122, li_200, li_255, li_256, li_257, li_258, li_259, li_260, li_300, li_314, li_400, li_580, li_999, li_5040, li_9999, li_65536, li_99999, li_7654321] at z
        have hp := iv_lt hr (show c < m by omega)
        have hpc := iv_at hr (show c < m by omega)
        have := hpl _ hp
        rw [hpc] at this
        refine wm_placeOf rfl (by omega) ?_
        rw [this]
        refine ⟨by simp (disch := omega) only [jn_le, jn_lt, jn_eq, jn_in, jn_add, jn_sub, jn_mul, jn_neg, li_0, li_1, li_2, li_3, li_4, li_5, li_6, li_7, li_8, li_9, li_10, li_11, li_12, li_13, li_14, li_15, li_16, li_17, li_18, li_20, li_24, li_29, li_30, li_31, li_32, li_37, li_39, li_40, li_42, li_43, li_45, li_46, li_47, li_48, li_53, li_57, li_59, li_60, li_61, li_62, li_63, li_80, li_81, li_91, li_93, li_97, li_100, li_122, li_200, li_255, li_256, li_257, li_258, li_259, li_260, li_300, li_314, li_400, li_580, li_999, li_5040, li_9999, li_65536, li_99999, li_7654321] <;> omega, fun a2 e2 => ?_⟩
        rw [jn_cln (by omega)] at e2
        refine ih (c + 1) _ a2 (by (first | rfl | (simp (disch := omega) only [jn_add, jn_sub, jn_mul, jn_neg, li_0, li_1, li_2, li_3, li_4, li_5, li_6, li_7, li_8, li_9, li_10, li_11, li_12, li_13, li_14, li_15, li_16, li_17, li_18, li_20, li_24, li_29, li_30, li_31, li_32, li_37, li_39, li_40, li_42, li_43, li_45, li_46, li_47, li_48, li_53, li_57, li_59, li_60, li_61, li_62, li_63, li_80, li_81, li_91, li_93, li_97, li_100, li_122, li_200, li_255, li_256, li_257, li_258, li_259, li_260, li_300, li_314, li_400, li_580, li_999, li_5040, li_9999, li_65536, li_99999, li_7654321] <;> first | rfl | exact congrArg jn (by omega)) | exact congrArg jn (by omega))) (by omega) (fun p hp2 hlt => ?_) (by omega)
        by_cases e : p = iv r c m
        · rw [e2, e, upd_at, hpc]
        · rw [e2, upd_ne e]
          refine hR p hp2 ?_
          have : r p ≠ c := fun q => e (iv_is hr hp2 q).symm
          omega
  exact key N 0 _ rw' rfl (by omega) (fun p _ h => by omega) (by omega)
theorem wm_rankNow {rw' : Nat → Int32} {Q : Int32 → (Nat → Int32) → Prop} (hN : 20 ≤ N) (hm : m ≤ 7) (hsd : sd 2 = jn m) (hr : Pm m r) (hpl : ∀ p : Nat, p < m → sd (13 + 4 * r p) = jn p) (h : ∀ rw2, ar m rw2 r → Q (jn (rk m r : Int)) rw2) : wp_X12_rankNow N sd Q rw' := by
  unfold wp_X12_rankNow
  exact wm_rowNow hN hm hsd hr hpl (fun rw2 hR => wm_rankOf2 (by omega) hm hsd (Pm8 hm hr) hR (h rw2 hR))
theorem wm_rankByF {p k : Nat} {rw' rt' : Nat → Int32} {Q : Int32 → (Nat → Int32) → Prop} {x y : Int32} (hN : 20 ≤ N) (hm : m ≤ 7) (hsd : sd 2 = jn m) (hr : Pm m r) (hR : ar m rw' r) (hp : p < m) (hk : k ≤ p) (hx : x = jn p) (hy : y = jn ((p - k : Nat) : Int)) (h : ∀ rt2, Q (jn (rk m (mv r p k) : Int)) rt2) : wp_X12_rankBy N sd rw' Q x y rt' := by
  unfold wp_X12_rankBy wp_X12_rankBy_10
  subst hx hy
  refine ⟨fun _ => ?_, fun z => ?_⟩
  · have key2 : ∀ (n j : Nat) (v4 : Int32) (rt' : Nat → Int32), v4 = jn ((p - j : Nat) : Int) → j ≤ k → (∀ q, q < m → rt' q = if p - j < q ∧ q ≤ p then jn (r (q - 1) : Int) else jn (r q : Int)) → k < n + j → wp_X12_rankBy_48 N sd rw' Q n (jn p) (jn ((p - k : Nat) : Int)) (-1) v4 rt' := by
      intro n
      induction n with
      | zero => intro j v4 rt' _ h1 _ h2; omega
      | succ n ih =>
        intro j v4 rt' e4 hj ht hn
        unfold wp_X12_rankBy_48
        subst e4
        rw [jn_eq (by omega) (by omega)]
        refine ⟨fun z => ⟨by simp (disch := omega) only [jn_le, jn_lt, jn_eq, jn_in, jn_add, jn_sub, jn_mul, jn_neg, li_0, li_1, li_2, li_3, li_4, li_5, li_6, li_7, li_8, li_9, li_10, li_11, li_12, li_13, li_14, li_15, li_16, li_17, li_18, li_20, li_24, li_29, li_30, li_31, li_32, li_37, li_39, li_40, li_42, li_43, li_45, li_46, li_47, li_48, li_53, li_57, li_59, li_60, li_61, li_62, li_63, li_80, li_81, li_91, li_93, li_97, li_100, li_122, li_200, li_255, li_256, li_257, li_258, li_259, li_260, li_300, li_314, li_400, li_580, li_999, li_5040, li_9999, li_65536, li_99999, li_7654321] <;> omega, by simp (disch := omega) only [jn_le, jn_lt, jn_eq, jn_in, jn_add, jn_sub, jn_mul, jn_neg, li_0, li_1, li_2, li_3, li_4, li_5, li_6, li_7, li_8, li_9, li_10, li_11, li_12, li_13, li_14, li_15, li_16, li_17, li_18, li_20, li_24, li_29, li_30, li_31, li_32, li_37, li_39, li_40, li_42, li_43, li_45, li_46, li_47, li_48, li_53, li_57, li_59, li_60, li_61, li_62, li_63, li_80, li_81, li_91, li_93, li_97, li_100, li_122, li_200, li_255, li_256, li_257, li_258, li_259, li_260, li_300, li_314, li_400, li_580, li_999, li_5040, li_9999, li_65536, li_99999, li_7654321] <;> omega, fun a2 e2 => ?_⟩, fun z => ?_⟩
        · have : j = k := by omega
          subst this
          rw [jn_cln (by omega), jn_cln (by omega), hR p hp] at e2
          refine wm_rankOf3 (r := mv r p j) (by omega) hm hsd (Pm8 hm (mv_Pm hr hp hk)) (fun q hq => ?_) (h a2)
          unfold mv
          by_cases e : q = p - j
          · rw [e2, if_pos e, e, upd_at]
          · rw [e2, upd_ne e, if_neg e, ht q hq]
            split <;> rfl
        · rw [show (-1 : Int32) = jn (-1) from rfl, jn_add, show (((p - j : Nat) : Int) + -1) = ((p - (j + 1) : Nat) : Int) by omega]
          refine ⟨by simp (disch := omega) only [jn_le, jn_lt, jn_eq, jn_in, jn_add, jn_sub, jn_mul, jn_neg, li_0, li_1, li_2, li_3, li_4, li_5, li_6, li_7, li_8, li_9, li_10, li_11, li_12, li_13, li_14, li_15, li_16, li_17, li_18, li_20, li_24, li_29, li_30, li_31, li_32, li_37, li_39, li_40, li_42, li_43, li_45, li_46, li_47, li_48, li_53, li_57, li_59, li_60, li_61, li_62, li_63, li_80, li_81, li_91, li_93, li_97, li_100, li_122, li_200, li_255, li_256, li_257, li_258, li_259, li_260, li_300, li_314, li_400, li_580, li_999, li_5040, li_9999, li_65536, li_99999, li_7654321] <;> omega, by simp (disch := omega) only [jn_le, jn_lt, jn_eq, jn_in, jn_add, jn_sub, jn_mul, jn_neg, li_0, li_1, li_2, li_3, li_4, li_5, li_6, li_7, li_8, li_9, li_10, li_11, li_12, li_13, li_14, li_15, li_16, li_17, li_18, li_20, li_24, li_29, li_30, li_31, li_32, li_37, li_39, li_40, li_42, li_43, li_45, li_46, li_47, li_48, li_53, li_57, li_59, li_60, li_61, li_62, li_63, li_80, li_81, li_91, li_93, li_97, li_100, li_122, li_200, li_255, li_256, li_257, li_258, li_259, li_260, li_300, li_314, li_400, li_580, li_999, li_5040, li_9999, li_65536, li_99999, li_7654321] <;> omega, fun a4 q4 x5 q5 => ?_⟩
          rw [jn_cln (by omega), jn_cln (by omega), hR _ (by omega)] at q4
          refine ih (j + 1) _ a4 q5 (by omega) (fun q hq => ?_) (by omega)
          by_cases e : q = p - j
          · rw [q4, e, upd_at, if_pos (by omega)]
            congr 2
          · rw [q4, upd_ne e, ht q hq]
            by_cases e2 : p - j < q ∧ q ≤ p
            · rw [if_pos e2, if_pos (by omega)]
            · rw [if_neg e2, if_neg (by omega)]
    have key : ∀ (n i : Nat) (v4 : Int32) (rt' : Nat → Int32), v4 = jn i → i ≤ m → ar i rt' r → m < n + i → wp_X12_rankBy_14 N sd rw' Q n (jn p) (jn ((p - k : Nat) : Int)) (-1) v4 rt' := by
      intro n
      induction n with
      | zero => intro i v4 rt' _ h1 _ h2; omega
      | succ n ih =>
        intro i v4 rt' e4 hi ht hn
        unfold wp_X12_rankBy_14
        subst e4
        rw [show (2 : Int32).toNatClampNeg = 2 from rfl, hsd]
        refine ⟨by unfold vp_in; decide, fun z => ?_, fun z => ?_⟩
        · simp (disch := omega) only [jn_le, jn_lt, jn_eq, jn_in, jn_add, jn_sub, jn_mul, jn_neg, li_0, li_1, li_2, li_3, li_4, li_5, li_6, li_7, li_8, li_9, li_10, li_11, li_12, li_13, li_14, li_15, li_16, li_17, li_18, li_20, li_24, li_29, li_30, li_31, li_32, li_37, li_39, li_40, li_42, li_43, li_45, li_46, li_47, li_48, li_53, li_57, li_59, li_60, li_61, li_62, li_63, li_80, li_81, li_91, li_93, li_97, li_100, li_122, li_200, li_255, li_256, li_257, li_258, li_259, li_260, li_300, li_314, li_400, li_580, li_999, li_5040, li_9999, li_65536, li_99999, li_7654321] at z
          refine key2 N 0 _ rt' rfl (by omega) (fun q hq => ?_) (by omega)
          rw [if_neg (by omega)]; exact ht q (by omega)
        · simp (disch := omega) only [jn_le, jn_lt, jn_eq, jn_in, jn_add, jn_sub, jn_mul, jn_neg, li_0, li_1, li_2, li_3, li_4, li_5, li_6, li_7, li_8, li_9, li_10, li_11, li_12, li_13, li_14, li_15, li_16, li_17, li_18, li_20, li_24, li_29, li_30, li_31, li_32, li_37, li_39, li_40, li_42, li_43, li_45, li_46, li_47, li_48, li_53, li_57, li_59, li_60, li_61, li_62, li_63, li_80, li_81, li_91, li_93, li_97, li_100, li_122, li_200, li_255, li_256, li_257, li_258, li_259, li_260, li_300, li_314, li_400, li_580, li_999, li_5040, li_9999, li_65536, li_99999, li_7654321] at z
          refine ⟨by simp (disch := omega) only [jn_le, jn_lt, jn_eq, jn_in, jn_add, jn_sub, jn_mul, jn_neg, li_0, li_1, li_2, li_3, li_4, li_5, li_6, li_7, li_8, li_9, li_10, li_11, li_12, li_13, li_14, li_15, li_16, li_17, li_18, li_20, li_24, li_29, li_30, li_31, li_32, li_37, li_39, li_40, li_42, li_43, li_45, li_46, li_47, li_48, li_53, li_57, li_59, li_60, li_61, li_62, li_63, li_80, li_81, li_91, li_93, li_97, li_100, li_122, li_200, li_255, li_256, li_257, li_258, li_259, li_260, li_300, li_314, li_400, li_580, li_999, li_5040, li_9999, li_65536, li_99999, li_7654321] <;> omega, by simp (disch := omega) only [jn_le, jn_lt, jn_eq, jn_in, jn_add, jn_sub, jn_mul, jn_neg, li_0, li_1, li_2, li_3, li_4, li_5, li_6, li_7, li_8, li_9, li_10, li_11, li_12, li_13, li_14, li_15, li_16, li_17, li_18, li_20, li_24, li_29, li_30, li_31, li_32, li_37, li_39, li_40, li_42, li_43, li_45, li_46, li_47, li_48, li_53, li_57, li_59, li_60, li_61, li_62, li_63, li_80, li_81, li_91, li_93, li_97, li_100, li_122, li_200, li_255, li_256, li_257, li_258, li_259, li_260, li_300, li_314, li_400, li_580, li_999, li_5040, li_9999, li_65536, li_99999, li_7654321] <;> omega, fun a1 e1 => ?_⟩
          rw [jn_cln (by omega), hR i (by omega)] at e1
          refine ih (i + 1) _ a1 (by (first | rfl | (simp (disch := omega) only [jn_add, jn_sub, jn_mul, jn_neg, li_0, li_1, li_2, li_3, li_4, li_5, li_6, li_7, li_8, li_9, li_10, li_11, li_12, li_13, li_14, li_15, li_16, li_17, li_18, li_20, li_24, li_29, li_30, li_31, li_32, li_37, li_39, li_40, li_42, li_43, li_45, li_46, li_47, li_48, li_53, li_57, li_59, li_60, li_61, li_62, li_63, li_80, li_81, li_91, li_93, li_97, li_100, li_122, li_200, li_255, li_256, li_257, li_258, li_259, li_260, li_300, li_314, li_400, li_580, li_999, li_5040, li_9999, li_65536, li_99999, li_7654321] <;> first | rfl | exact congrArg jn (by omega)) | exact congrArg jn (by omega))) (by omega) (fun q hq => ?_) (by omega)
          by_cases e : q = i
          · rw [e1, e, upd_at]
          · rw [e1, upd_ne e]; exact ht q (by omega)
    exact key N 0 _ rt' rfl (by omega) (fun q hq => by omega) (by omega)
  · rw [jn_le (by omega) (by omega)] at z; omega
theorem wm_rankByB {p k : Nat} {rw' rt' : Nat → Int32} {Q : Int32 → (Nat → Int32) → Prop} {x y : Int32} (hN : 20 ≤ N) (hm : m ≤ 7) (hsd : sd 2 = jn m) (hr : Pm m r) (hR : ar m rw' r) (hp : p + k < m) (hk : 1 ≤ k) (hx : x = jn p) (hy : y = jn ((p + k : Nat) : Int)) (h : ∀ rt2, Q (jn (rk m (bk r p k) : Int)) rt2) : wp_X12_rankBy N sd rw' Q x y rt' := by
  unfold wp_X12_rankBy wp_X12_rankBy_10
  subst hx hy
  refine ⟨fun z => ?_, fun _ => ?_⟩
  · rw [jn_le (by omega) (by omega)] at z; omega
  · have key2 : ∀ (n j : Nat) (v4 : Int32) (rt' : Nat → Int32), v4 = jn ((p + j : Nat) : Int) → j ≤ k → (∀ q, q < m → rt' q = if p ≤ q ∧ q < p + j then jn (r (q + 1) : Int) else jn (r q : Int)) → k < n + j → wp_X12_rankBy_48 N sd rw' Q n (jn p) (jn ((p + k : Nat) : Int)) 1 v4 rt' := by
      intro n
      induction n with
      | zero => intro j v4 rt' _ h1 _ h2; omega
      | succ n ih =>
        intro j v4 rt' e4 hj ht hn
        unfold wp_X12_rankBy_48
        subst e4
        rw [jn_eq (by omega) (by omega)]
        refine ⟨fun z => ⟨by simp (disch := omega) only [jn_le, jn_lt, jn_eq, jn_in, jn_add, jn_sub, jn_mul, jn_neg, li_0, li_1, li_2, li_3, li_4, li_5, li_6, li_7, li_8, li_9, li_10, li_11, li_12, li_13, li_14, li_15, li_16, li_17, li_18, li_20, li_24, li_29, li_30, li_31, li_32, li_37, li_39, li_40, li_42, li_43, li_45, li_46, li_47, li_48, li_53, li_57, li_59, li_60, li_61, li_62, li_63, li_80, li_81, li_91, li_93, li_97, li_100, li_122, li_200, li_255, li_256, li_257, li_258, li_259, li_260, li_300, li_314, li_400, li_580, li_999, li_5040, li_9999, li_65536, li_99999, li_7654321] <;> omega, by simp (disch := omega) only [jn_le, jn_lt, jn_eq, jn_in, jn_add, jn_sub, jn_mul, jn_neg, li_0, li_1, li_2, li_3, li_4, li_5, li_6, li_7, li_8, li_9, li_10, li_11, li_12, li_13, li_14, li_15, li_16, li_17, li_18, li_20, li_24, li_29, li_30, li_31, li_32, li_37, li_39, li_40, li_42, li_43, li_45, li_46, li_47, li_48, li_53, li_57, li_59, li_60, li_61, li_62, li_63, li_80, li_81, li_91, li_93, li_97, li_100, li_122, li_200, li_255, li_256, li_257, li_258, li_259, li_260, li_300, li_314, li_400, li_580, li_999, li_5040, li_9999, li_65536, li_99999, li_7654321] <;> omega, fun a2 e2 => ?_⟩, fun z => ?_⟩
        · have : j = k := by omega
          subst this
          rw [jn_cln (by omega), jn_cln (by omega), hR p (by omega)] at e2
          refine wm_rankOf3 (r := bk r p j) (by omega) hm hsd (Pm8 hm (bk_Pm hr hp)) (fun q hq => ?_) (h a2)
          unfold bk
          by_cases e : q = p + j
          · rw [e2, if_pos e, e, upd_at]
          · rw [e2, upd_ne e, if_neg e, ht q hq]
            split <;> rfl
        · rw [show jn ((p + j : Nat) : Int) + (1 : Int32) = jn ((p + (j + 1) : Nat) : Int) from by (first | rfl | (simp (disch := omega) only [jn_add, jn_sub, jn_mul, jn_neg, li_0, li_1, li_2, li_3, li_4, li_5, li_6, li_7, li_8, li_9, li_10, li_11, li_12, li_13, li_14, li_15, li_16, li_17, li_18, li_20, li_24, li_29, li_30, li_31, li_32, li_37, li_39, li_40, li_42, li_43, li_45, li_46, li_47, li_48, li_53, li_57, li_59, li_60, li_61, li_62, li_63, li_80, li_81, li_91, li_93, li_97, li_100, li_122, li_200, li_255, li_256, li_257, li_258, li_259, li_260, li_300, li_314, li_400, li_580, li_999, li_5040, li_9999, li_65536, li_99999, li_7654321] <;> first | rfl | exact congrArg jn (by omega)) | exact congrArg jn (by omega))]
          refine ⟨by simp (disch := omega) only [jn_le, jn_lt, jn_eq, jn_in, jn_add, jn_sub, jn_mul, jn_neg, li_0, li_1, li_2, li_3, li_4, li_5, li_6, li_7, li_8, li_9, li_10, li_11, li_12, li_13, li_14, li_15, li_16, li_17, li_18, li_20, li_24, li_29, li_30, li_31, li_32, li_37, li_39, li_40, li_42, li_43, li_45, li_46, li_47, li_48, li_53, li_57, li_59, li_60, li_61, li_62, li_63, li_80, li_81, li_91, li_93, li_97, li_100, li_122, li_200, li_255, li_256, li_257, li_258, li_259, li_260, li_300, li_314, li_400, li_580, li_999, li_5040, li_9999, li_65536, li_99999, li_7654321] <;> omega, by simp (disch := omega) only [jn_le, jn_lt, jn_eq, jn_in, jn_add, jn_sub, jn_mul, jn_neg, li_0, li_1, li_2, li_3, li_4, li_5, li_6, li_7, li_8, li_9, li_10, li_11, li_12, li_13, li_14, li_15, li_16, li_17, li_18, li_20, li_24, li_29, li_30, li_31, li_32, li_37, li_39, li_40, li_42, li_43, li_45, li_46, li_47, li_48, li_53, li_57, li_59, li_60, li_61, li_62, li_63, li_80, li_81, li_91, li_93, li_97, li_100, li_122, li_200, li_255, li_256, li_257, li_258, li_259, li_260, li_300, li_314, li_400, li_580, li_999, li_5040, li_9999, li_65536, li_99999, li_7654321] <;> omega, fun a4 q4 x5 q5 => ?_⟩
          rw [jn_cln (by omega), jn_cln (by omega), hR _ (by omega)] at q4
          refine ih (j + 1) _ a4 q5 (by omega) (fun q hq => ?_) (by omega)
          by_cases e : q = p + j
          · rw [q4, e, upd_at, if_pos (by omega)]
            congr 2
          · rw [q4, upd_ne e, ht q hq]
            by_cases e2 : p ≤ q ∧ q < p + j
            · rw [if_pos e2, if_pos (by omega)]
            · rw [if_neg e2, if_neg (by omega)]
    have key : ∀ (n i : Nat) (v4 : Int32) (rt' : Nat → Int32), v4 = jn i → i ≤ m → ar i rt' r → m < n + i → wp_X12_rankBy_14 N sd rw' Q n (jn p) (jn ((p + k : Nat) : Int)) 1 v4 rt' := by
      intro n
      induction n with
      | zero => intro i v4 rt' _ h1 _ h2; omega
      | succ n ih =>
        intro i v4 rt' e4 hi ht hn
        unfold wp_X12_rankBy_14
        subst e4
        rw [show (2 : Int32).toNatClampNeg = 2 from rfl, hsd]
        refine ⟨by unfold vp_in; decide, fun z => ?_, fun z => ?_⟩
        · simp (disch := omega) only [jn_le, jn_lt, jn_eq, jn_in, jn_add, jn_sub, jn_mul, jn_neg, li_0, li_1, li_2, li_3, li_4, li_5, li_6, li_7, li_8, li_9, li_10, li_11, li_12, li_13, li_14, li_15, li_16, li_17, li_18, li_20, li_24, li_29, li_30, li_31, li_32, li_37, li_39, li_40, li_42, li_43, li_45, li_46, li_47, li_48, li_53, li_57, li_59, li_60, li_61, li_62, li_63, li_80, li_81, li_91, li_93, li_97, li_100, li_122, li_200, li_255, li_256, li_257, li_258, li_259, li_260, li_300, li_314, li_400, li_580, li_999, li_5040, li_9999, li_65536, li_99999, li_7654321] at z
          refine key2 N 0 _ rt' rfl (by omega) (fun q hq => ?_) (by omega)
          rw [if_neg (by omega)]; exact ht q (by omega)
        · simp (disch := omega) only [jn_le, jn_lt, jn_eq, jn_in, jn_add, jn_sub, jn_mul, jn_neg, li_0, li_1, li_2, li_3, li_4, li_5, li_6, li_7, li_8, li_9, li_10, li_11, li_12, li_13, li_14, li_15, li_16, li_17, li_18, li_20, li_24, li_29, li_30, li_31, li_32, li_37, li_39, li_40, li_42, li_43, li_45, li_46, li_47, li_48, li_53, li_57, li_59, li_60, li_61, li_62, li_63, li_80, li_81, li_91, li_93, li_97, li_100, li_122, li_200, li_255, li_256, li_257, li_258, li_259, li_260, li_300, li_314, li_400, li_580, li_999, li_5040, li_9999, li_65536, li_99999, li_7654321] at z
          refine ⟨by simp (disch := omega) only [jn_le, jn_lt, jn_eq, jn_in, jn_add, jn_sub, jn_mul, jn_neg, li_0, li_1, li_2, li_3, li_4, li_5, li_6, li_7, li_8, li_9, li_10, li_11, li_12, li_13, li_14, li_15, li_16, li_17, li_18, li_20, li_24, li_29, li_30, li_31, li_32, li_37, li_39, li_40, li_42, li_43, li_45, li_46, li_47, li_48, li_53, li_57, li_59, li_60, li_61, li_62, li_63, li_80, li_81, li_91, li_93, li_97, li_100, li_122, li_200, li_255, li_256, li_257, li_258, li_259, li_260, li_300, li_314, li_400, li_580, li_999, li_5040, li_9999, li_65536, li_99999, li_7654321] <;> omega, by simp (disch := omega) only [jn_le, jn_lt, jn_eq, jn_in, jn_add, jn_sub, jn_mul, jn_neg, li_0, li_1, li_2, li_3, li_4, li_5, li_6, li_7, li_8, li_9, li_10, li_11, li_12, li_13, li_14, li_15, li_16, li_17, li_18, li_20, li_24, li_29, li_30, li_31, li_32, li_37, li_39, li_40, li_42, li_43, li_45, li_46, li_47, li_48, li_53, li_57, li_59, li_60, li_61, li_62, li_63, li_80, li_81, li_91, li_93, li_97, li_100, li_122, li_200, li_255, li_256, li_257, li_258, li_259, li_260, li_300, li_314, li_400, li_580, li_999, li_5040, li_9999, li_65536, li_99999, li_7654321] <;> omega, fun a1 e1 => ?_⟩
          rw [jn_cln (by omega), hR i (by omega)] at e1
          refine ih (i + 1) _ a1 (by (first | rfl | (simp (disch := omega) only [jn_add, jn_sub, jn_mul, jn_neg, li_0, li_1, li_2, li_3, li_4, li_5, li_6, li_7, li_8, li_9, li_10, li_11, li_12, li_13, li_14, li_15, li_16, li_17, li_18, li_20, li_24, li_29, li_30, li_31, li_32, li_37, li_39, li_40, li_42, li_43, li_45, li_46, li_47, li_48, li_53, li_57, li_59, li_60, li_61, li_62, li_63, li_80, li_81, li_91, li_93, li_97, li_100, li_122, li_200, li_255, li_256, li_257, li_258, li_259, li_260, li_300, li_314, li_400, li_580, li_999, li_5040, li_9999, li_65536, li_99999, li_7654321] <;> first | rfl | exact congrArg jn (by omega)) | exact congrArg jn (by omega))) (by omega) (fun q hq => ?_) (by omega)
          by_cases e : q = i
          · rw [e1, e, upd_at]
          · rw [e1, upd_ne e]; exact ht q (by omega)
    exact key N 0 _ rt' rfl (by omega) (fun q hq => by omega) (by omega)
end MMV
