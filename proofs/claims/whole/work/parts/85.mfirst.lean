/-! the reference: first and behind -/
/-- the fewest leaps until a child is first -/
def aFi (E : Nat → Nat → Nat → Prop) (m S c : Nat) (x : Int) : Prop := (∃ (d : Nat) (r : Nat → Nat), Pm m r ∧ r 0 = c ∧ Ds E S (rk m r) d ∧ d < 5040 ∧ x = d ∧ ∀ (r' : Nat → Nat) (d' : Nat), Pm m r' → r' 0 = c → Ds E S (rk m r') d' → d ≤ d') ∨ ((∀ (r : Nat → Nat) (d : Nat), Pm m r → r 0 = c → ¬ Ds E S (rk m r) d) ∧ x = -2)
theorem aFi_un {E : Nat → Nat → Nat → Prop} {m S c : Nat} {x y : Int} (h : aFi E m S c x) (h' : aFi E m S c y) : x = y := by
  rcases h with ⟨d, r, a1, a2, a3, a4, a5, a6⟩ | ⟨a1, a2⟩
  · rcases h' with ⟨d', r', b1, b2, b3, b4, b5, b6⟩ | ⟨b1, b2⟩
    · have := a6 r' d' b1 b2 b3
      have := b6 r d a1 a2 a3
      omega
    · exact absurd a3 (b1 r d a1 a2)
  · rcases h' with ⟨d', r', b1, b2, b3, b4, b5, b6⟩ | ⟨b1, b2⟩
    · exact absurd b3 (a1 r' d' b1 b2)
    · omega
/-- those who are ahead in all orders -/
def aBe (E : Nat → Nat → Nat → Prop) (m S c x : Nat) : Prop := ∀ d, x.testBit d = true ↔ (d < m ∧ ∀ (r : Nat → Nat) (e : Nat), Pm m r → Ds E S (rk m r) e → iv r d m < iv r c m)
theorem aBe_un {E : Nat → Nat → Nat → Prop} {m S c x y : Nat} (h : aBe E m S c x) (h' : aBe E m S c y) : x = y := by
  refine Nat.eq_of_testBit_eq (fun d => ?_)
  have : x.testBit d = true ↔ y.testBit d = true := (h d).trans (h' d).symm
  cases q : x.testBit d <;> cases q' : y.testBit d
  · rfl
  · rw [q, q'] at this; exact absurd (this.mpr rfl) (by decide)
  · rw [q, q'] at this; exact absurd (this.mp rfl) (by decide)
  · rfl
section MFI
variable {N m sp : Nat} {LP BK O : Nat → Nat} {sd : Nat → Int32}
theorem wm_first {x : Int32} {Q : Int32 → (Nat → Int32) → (Nat → Int32) → (Nat → Int32) → (Nat → Int32) → Int32 → Prop} {rw' rt' fa qu : Nat → Int32} {re : Int32} (hN : 6000 ≤ N) (hq : mQ m sp LP BK sd) (hs6 : sp ≤ 6) (hO : Pm m O) (hpl : ∀ p : Nat, p < m → sd (13 + 4 * O p) = jn p)
    (h0 : asC m x = none → ∀ rw' rt' fa qu re, Q (-1) rw' rt' fa qu re) (h1 : ∀ c, asC m x = some c → ∀ y, aFi (Lg m sp (clf LP BK)) m (rk m O) c y → ∀ rw' rt' fa qu re, Q (jn y) rw' rt' fa qu re) : wp_X12_first N sd Q x rw' rt' fa qu re := by
  have hm := hq.2.2.2.2.1
  unfold wp_X12_first
  refine wm_isChild hm hq.1 ?_
  cases hc : asC m x with
  | none => exact ⟨fun _ => h0 hc _ _ _ _ _, fun u => absurd rfl u⟩
  | some c =>
    obtain ⟨hcm, hx⟩ := asC_some hc
    rw [if_pos (Option.isSome_some)]
    refine ⟨fun u => absurd u (by decide), fun _ => ?_⟩
    refine wm_rankNow (by omega) hm hq.1 hO hpl (fun rw3 _ => ?_)
    refine wm_seeks hN hm hs6 hq.1 hq.2.1 (WY_F (by omega) hq) hO rfl (fun F ro dp rw' rt' fa qu re hB hF => ?_)
    obtain ⟨c1, c2, c3, c4⟩ := hB
    have key : ∀ (k j : Nat) (v2 : Int32) (rw' : Nat → Int32), v2 = jn j → j ≤ F → (∀ i, i < j → ∀ r, Pm m r → rk m r = ro i → r 0 ≠ c) → F < k + j → wp_X12_first_21 N sd Q k x v2 rw' rt' fa qu re := by
      intro k
      induction k with
      | zero => intro j v2 rw' _ h1 _ h2; omega
      | succ k ih =>
        intro j v2 rw' e2 hj ha hk
        unfold wp_X12_first_21
        subst e2
        rw [c1, jn_le (by omega) (by omega)]
        refine ⟨fun z => ?_, fun z => ?_⟩
        · rw [← c1]
          refine h1 c hc (-2) (Or.inr ⟨fun r d hr h0 hd => ?_, rfl⟩) _ _ _ _ _
          obtain ⟨i, i1, i2, -⟩ := (FB_iff hF).mp hd
          exact ha i (by omega) r hr i2.symm h0
        · obtain ⟨g1, g2, g3, g4, r, hr, hrk⟩ := c3 j (by omega)
          refine ⟨by simp (disch := omega) only [jn_le, jn_lt, jn_eq, jn_in, jn_add, jn_sub, jn_mul, jn_neg, li_0, li_1, li_2, li_3, li_4, li_5, li_6, li_7, li_8, li_9, li_10, li_11, li_12, li_13, li_14, li_15, li_16, li_17, li_18, li_20, li_24, li_29, li_30, li_31, li_32, li_37, li_39, li_40, li_42, li_43, li_45, li_46, li_47, li_48, li_53, li_57, li_59, li_60, li_61, li_62, li_63, li_80, li_81, li_91, li_93, li_97, li_100, li_122, li_200, li_255, li_256, li_257, li_258, li_259, li_260, li_300, li_314, li_400, li_580, li_999, li_5040, li_9999, li_65536, li_99999, li_7654321] <;> omega, ?_⟩
          rw [jn_cln (by omega), g1]
          refine wm_rowOf (r := r) (by omega) hm hq.1 hr (by rw [hrk]) (fun rw2 hR => ⟨by unfold vp_in; decide, ?_⟩)
          have hr0 := hr.1 0 (by omega)
          rw [show (0 : Int32).toNatClampNeg = 0 from rfl, hR 0 (by omega), hx, jn_eq (by omega) (by omega), jn_cln (by omega), g3]
          refine ⟨fun w => ⟨by simp (disch := omega) only [jn_le, jn_lt, jn_eq, jn_in, jn_add, jn_sub, jn_mul, jn_neg, li_0, li_1, li_2, li_3, li_4, li_5, li_6, li_7, li_8, li_9, li_10, li_11, li_12, li_13, li_14, li_15, li_16, li_17, li_18, li_20, li_24, li_29, li_30, li_31, li_32, li_37, li_39, li_40, li_42, li_43, li_45, li_46, li_47, li_48, li_53, li_57, li_59, li_60, li_61, li_62, li_63, li_80, li_81, li_91, li_93, li_97, li_100, li_122, li_200, li_255, li_256, li_257, li_258, li_259, li_260, li_300, li_314, li_400, li_580, li_999, li_5040, li_9999, li_65536, li_99999, li_7654321] <;> omega, by simp (disch := omega) only [jn_le, jn_lt, jn_eq, jn_in, jn_add, jn_sub, jn_mul, jn_neg, li_0, li_1, li_2, li_3, li_4, li_5, li_6, li_7, li_8, li_9, li_10, li_11, li_12, li_13, li_14, li_15, li_16, li_17, li_18, li_20, li_24, li_29, li_30, li_31, li_32, li_37, li_39, li_40, li_42, li_43, li_45, li_46, li_47, li_48, li_53, li_57, li_59, li_60, li_61, li_62, li_63, li_80, li_81, li_91, li_93, li_97, li_100, li_122, li_200, li_255, li_256, li_257, li_258, li_259, li_260, li_300, li_314, li_400, li_580, li_999, li_5040, li_9999, li_65536, li_99999, li_7654321] <;> omega, ?_⟩, fun w => ?_⟩
          · rw [← c1]
            refine h1 c hc _ (Or.inl ⟨dp j, r, hr, by omega, ?_, by omega, rfl, fun r' d' b1 b2 b3 => ?_⟩) _ _ _ _ _
            · rw [hrk]; exact FB_Ds hF (by omega)
            · obtain ⟨i, i1, i2, i3⟩ := (FB_iff hF).mp b3
              rw [← i3]
              refine hF.2.2.2.2.2.2 j i ?_ i1
              by_cases q : j ≤ i
              · exact q
              · exact absurd b2 (ha i (by omega) r' b1 i2.symm)
          · rw [← c1, ← hx]
            refine ih (j + 1) _ _ (by (first | rfl | (simp (disch := omega) only [jn_add, jn_sub, jn_mul, jn_neg, li_0, li_1, li_2, li_3, li_4, li_5, li_6, li_7, li_8, li_9, li_10, li_11, li_12, li_13, li_14, li_15, li_16, li_17, li_18, li_20, li_24, li_29, li_30, li_31, li_32, li_37, li_39, li_40, li_42, li_43, li_45, li_46, li_47, li_48, li_53, li_57, li_59, li_60, li_61, li_62, li_63, li_80, li_81, li_91, li_93, li_97, li_100, li_122, li_200, li_255, li_256, li_257, li_258, li_259, li_260, li_300, li_314, li_400, li_580, li_999, li_5040, li_9999, li_65536, li_99999, li_7654321] <;> first | rfl | exact congrArg jn (by omega)) | exact congrArg jn (by omega))) (by omega) (fun i hi r' b1 b2 => ?_) (by omega)
            by_cases e : i = j
            · subst e
              have := rk_inj hm b1 hr (by rw [b2, hrk]) 0 (by omega)
              omega
            · exact ha i (by omega) r' b1 b2
    exact key N 0 _ _ rfl (by omega) (fun i hi => by omega) (by omega)
end MFI
