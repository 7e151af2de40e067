/-! the reference: farthest -/
/-- of those who are as far as can be the order that is told by the least number -/
def aFo (E : Nat → Nat → Nat → Prop) (m S x : Nat) : Prop := ∃ M, aMo E S M ∧ (∃ r, Pm m r ∧ Ds E S (rk m r) M ∧ x = onum r m) ∧ ∀ r, Pm m r → Ds E S (rk m r) M → x ≤ onum r m
theorem aFo_un {E : Nat → Nat → Nat → Prop} {m S x y : Nat} (h : aFo E m S x) (h' : aFo E m S y) : x = y := by
  obtain ⟨M, a1, ⟨r, a2, a3, a4⟩, a5⟩ := h
  obtain ⟨M', b1, ⟨r', b2, b3, b4⟩, b5⟩ := h'
  have := aMo_un a1 b1
  subst this
  have h1 := a5 r' b2 b3
  have h2 := b5 r a2 a3
  omega
section MFA
variable {N m sp : Nat} {LP BK O : Nat → Nat} {sd : Nat → Int32}
theorem wm_farthest {w : Int} {x : Int32} {Q : Int32 → (Nat → Int32) → (Nat → Int32) → (Nat → Int32) → (Nat → Int32) → Int32 → Prop} {rw' rt' fa qu : Nat → Int32} {re : Int32} (hN : 6000 ≤ N) (hq : mQ m sp LP BK sd) (hs6 : sp ≤ 6) (hO : Pm m O) (hpl : ∀ p : Nat, p < m → sd (13 + 4 * O p) = jn p) (hla : sd 0 = 1) (hx : x = jn w) (rw0 : -2147483648 ≤ w ∧ w < 2147483648)
    (h0 : ¬ (0 ≤ w ∧ w ≤ 1) → ∀ rw' rt' fa qu re, Q (-1) rw' rt' fa qu re) (h1 : w = 0 → ∀ y : Nat, aMo (Lg m sp (clf LP BK)) (rk m O) y → ∀ rw' rt' fa qu re, Q (jn (y : Int)) rw' rt' fa qu re) (h2 : w = 1 → ∀ y : Nat, aFo (Lg m sp (clf LP BK)) m (rk m O) y → ∀ rw' rt' fa qu re, Q (jn (y : Int)) rw' rt' fa qu re) : wp_X12_farthest N sd Q x rw' rt' fa qu re := by
  have hm := hq.2.2.2.2.1
  unfold wp_X12_farthest wp_X12_farthest_17
  refine wm_isLane (t := 1) (by omega) (by rw [hla]; rfl) ⟨fun u => absurd u (by decide), fun _ => ?_⟩
  subst hx
  refine wm_in (a := w) (b := 0) (c := 1) (jn_l rw0) rfl rfl rw0 (by omega) (by omega) ?_
  by_cases hw : 0 ≤ w ∧ w ≤ 1
  · rw [if_pos hw]
    refine ⟨fun u => absurd u (by decide), fun _ => ?_⟩
    refine wm_rankNow (by omega) hm hq.1 hO hpl (fun rw3 _ => ?_)
    refine wm_seeks hN hm hs6 hq.1 hq.2.1 (WY_F (by omega) hq) hO rfl (fun F ro dp rw' rt' fa qu re hB hF => ?_)
    refine wm_rankNow (by omega) hm hq.1 hO hpl (fun rw4 _ => ?_)
    have hlt : ∀ b d, Ds (Lg m sp (clf LP BK)) (rk m O) b d → b < 5040 ∧ ∃ r, Pm m r ∧ rk m r = b := by
      intro b d hd
      obtain ⟨j, j1, j2, -⟩ := (FB_iff hF).mp hd
      obtain ⟨-, g2, -, -, g5⟩ := hB.2.2.1 j j1
      rw [← j2]; exact ⟨g2, g5⟩
    have key : ∀ (k j M B : Nat) (v2 v3 v4 : Int32) (rw' : Nat → Int32), v4 = jn j → j ≤ 5040 → v2 = jn (B : Int) → v3 = jn (M : Int) → M < 5040 → Ds (Lg m sp (clf LP BK)) (rk m O) B M → (∀ b d, b < j → Ds (Lg m sp (clf LP BK)) (rk m O) b d → d ≤ M ∧ (d = M → B ≤ b)) → (M = 0 ∨ B < j) → 5040 < k + j → wp_X12_farthest_38 N sd Q k (jn w) v2 v3 v4 rw' rt' fa qu re := by
      intro k
      induction k with
      | zero => intro j M B v2 v3 v4 rw' _ h1 _ _ _ _ _ _ h2; omega
      | succ k ih =>
        intro j M B v2 v3 v4 rw' e4 hj e2 e3 hM hD ha hb hk
        unfold wp_X12_farthest_38 wp_X12_farthest_71 wp_X12_farthest_90
        subst e4
        refine ⟨fun z => ?_, fun z => ?_⟩
        · simp (disch := omega) only [jn_le, jn_lt, jn_eq, jn_in, jn_add, jn_sub, jn_mul, jn_neg, li_0, li_1, li_2, li_3, li_4, li_5, li_6, li_7, li_8, li_9, li_10, li_11, li_12, li_13, li_14, li_15, li_16, li_17, li_18, li_20, li_24, li_29, li_30, li_31, li_32, li_37, li_39, li_40, li_42, li_43, li_45, li_46, li_47, li_48, li_53, li_57, li_59, li_60, li_61, li_62, li_63, li_80, li_81, li_91, li_93, li_97, li_100, li_122, li_200, li_255, li_256, li_257, li_258, li_259, li_260, li_300, li_314, li_400, li_580, li_999, li_5040, li_9999, li_65536, li_99999, li_7654321] at z
          have hmo : aMo (Lg m sp (clf LP BK)) (rk m O) M := ⟨⟨B, hD⟩, fun b d hd => (ha b d (by have := (hlt b d hd).1; omega) hd).1⟩
          rw [show (jn w = 0) = (w = 0) from by rw [li_0, jn_eq (by omega) (by omega)]]
          refine ⟨fun u => ?_, fun u => ?_⟩
          · rw [e3]; exact h1 u M hmo _ _ _ _ _
          · obtain ⟨r, hr, hrk⟩ := (hlt B M hD).2
            refine wm_orderOf (r := r) (by omega) hm hq.1 hr (by rw [e2, hrk]) (fun rw2 => ?_)
            refine h2 (by omega) _ ⟨M, hmo, ⟨r, hr, by rw [hrk]; exact hD, rfl⟩, fun r' hr' hd' => ?_⟩ _ _ _ _ _
            refine rk_mono hm hr hr' ?_
            rw [hrk]
            exact (ha _ _ (by have := (hlt _ _ hd').1; omega) hd').2 rfl
        · simp (disch := omega) only [jn_le, jn_lt, jn_eq, jn_in, jn_add, jn_sub, jn_mul, jn_neg, li_0, li_1, li_2, li_3, li_4, li_5, li_6, li_7, li_8, li_9, li_10, li_11, li_12, li_13, li_14, li_15, li_16, li_17, li_18, li_20, li_24, li_29, li_30, li_31, li_32, li_37, li_39, li_40, li_42, li_43, li_45, li_46, li_47, li_48, li_53, li_57, li_59, li_60, li_61, li_62, li_63, li_80, li_81, li_91, li_93, li_97, li_100, li_122, li_200, li_255, li_256, li_257, li_258, li_259, li_260, li_300, li_314, li_400, li_580, li_999, li_5040, li_9999, li_65536, li_99999, li_7654321] at z
          refine ⟨by simp (disch := omega) only [jn_le, jn_lt, jn_eq, jn_in, jn_add, jn_sub, jn_mul, jn_neg, li_0, li_1, li_2, li_3, li_4, li_5, li_6, li_7, li_8, li_9, li_10, li_11, li_12, li_13, li_14, li_15, li_16, li_17, li_18, li_20, li_24, li_29, li_30, li_31, li_32, li_37, li_39, li_40, li_42, li_43, li_45, li_46, li_47, li_48, li_53, li_57, li_59, li_60, li_61, li_62, li_63, li_80, li_81, li_91, li_93, li_97, li_100, li_122, li_200, li_255, li_256, li_257, li_258, li_259, li_260, li_300, li_314, li_400, li_580, li_999, li_5040, li_9999, li_65536, li_99999, li_7654321] <;> omega, ?_⟩
          rw [jn_cln (by omega), e3]
          rcases mB_at hB hF (show j < 5040 by omega) with ⟨d, d1, d2, d3⟩ | ⟨d1, d2⟩
          · rw [d3, jn_lt (by omega) (by omega)]
            refine ⟨fun u => ⟨by simp (disch := omega) only [jn_le, jn_lt, jn_eq, jn_in, jn_add, jn_sub, jn_mul, jn_neg, li_0, li_1, li_2, li_3, li_4, li_5, li_6, li_7, li_8, li_9, li_10, li_11, li_12, li_13, li_14, li_15, li_16, li_17, li_18, li_20, li_24, li_29, li_30, li_31, li_32, li_37, li_39, li_40, li_42, li_43, li_45, li_46, li_47, li_48, li_53, li_57, li_59, li_60, li_61, li_62, li_63, li_80, li_81, li_91, li_93, li_97, li_100, li_122, li_200, li_255, li_256, li_257, li_258, li_259, li_260, li_300, li_314, li_400, li_580, li_999, li_5040, li_9999, li_65536, li_99999, li_7654321] <;> omega, fun x14 e14 => ?_⟩, fun u => ?_⟩
            · refine ih (j + 1) d j _ _ _ _ (by (first | rfl | (simp (disch := omega) only [jn_add, jn_sub, jn_mul, jn_neg, li_0, li_1, li_2, li_3, li_4, li_5, li_6, li_7, li_8, li_9, li_10, li_11, li_12, li_13, li_14, li_15, li_16, li_17, li_18, li_20, li_24, li_29, li_30, li_31, li_32, li_37, li_39, li_40, li_42, li_43, li_45, li_46, li_47, li_48, li_53, li_57, li_59, li_60, li_61, li_62, li_63, li_80, li_81, li_91, li_93, li_97, li_100, li_122, li_200, li_255, li_256, li_257, li_258, li_259, li_260, li_300, li_314, li_400, li_580, li_999, li_5040, li_9999, li_65536, li_99999, li_7654321] <;> first | rfl | exact congrArg jn (by omega)) | exact congrArg jn (by omega))) (by omega) rfl e14 d2 d1 (fun b e hbj he => ?_) (Or.inr (by omega)) (by omega)
              by_cases q : b = j
              · subst q
                have := Ds_un d1 he
                exact ⟨by omega, fun _ => Nat.le_refl _⟩
              · have := ha b e (by omega) he
                exact ⟨by omega, fun y => by omega⟩
            · rw [← e3]
              refine ih (j + 1) M B _ _ _ _ (by (first | rfl | (simp (disch := omega) only [jn_add, jn_sub, jn_mul, jn_neg, li_0, li_1, li_2, li_3, li_4, li_5, li_6, li_7, li_8, li_9, li_10, li_11, li_12, li_13, li_14, li_15, li_16, li_17, li_18, li_20, li_24, li_29, li_30, li_31, li_32, li_37, li_39, li_40, li_42, li_43, li_45, li_46, li_47, li_48, li_53, li_57, li_59, li_60, li_61, li_62, li_63, li_80, li_81, li_91, li_93, li_97, li_100, li_122, li_200, li_255, li_256, li_257, li_258, li_259, li_260, li_300, li_314, li_400, li_580, li_999, li_5040, li_9999, li_65536, li_99999, li_7654321] <;> first | rfl | exact congrArg jn (by omega)) | exact congrArg jn (by omega))) (by omega) e2 e3 hM hD (fun b e hbj he => ?_) (by omega) (by omega)
              by_cases q : b = j
              · subst q
                have hde := Ds_un d1 he
                refine ⟨by omega, fun y => ?_⟩
                rcases hb with hb | hb
                · subst hb
                  subst y
                  have e1 : rk m O = B := hD.1
                  have e2 : rk m O = b := he.1
                  omega
                · omega
              · exact ha b e (by omega) he
          · rw [d2]
            refine ⟨fun u => ?_, fun u => ?_⟩
            · rw [show (-1 : Int32) = jn (-1) from rfl, jn_lt (by omega) (by omega)] at u
              omega
            · rw [← e3]
              refine ih (j + 1) M B _ _ _ _ (by (first | rfl | (simp (disch := omega) only [jn_add, jn_sub, jn_mul, jn_neg, li_0, li_1, li_2, li_3, li_4, li_5, li_6, li_7, li_8, li_9, li_10, li_11, li_12, li_13, li_14, li_15, li_16, li_17, li_18, li_20, li_24, li_29, li_30, li_31, li_32, li_37, li_39, li_40, li_42, li_43, li_45, li_46, li_47, li_48, li_53, li_57, li_59, li_60, li_61, li_62, li_63, li_80, li_81, li_91, li_93, li_97, li_100, li_122, li_200, li_255, li_256, li_257, li_258, li_259, li_260, li_300, li_314, li_400, li_580, li_999, li_5040, li_9999, li_65536, li_99999, li_7654321] <;> first | rfl | exact congrArg jn (by omega)) | exact congrArg jn (by omega))) (by omega) e2 e3 hM hD (fun b e hbj he => ?_) (by omega) (by omega)
              by_cases q : b = j
              · subst q; exact absurd he (d1 e)
              · exact ha b e (by omega) he
    refine key N 0 0 (rk m O) _ _ _ _ rfl (by omega) rfl rfl (by omega) ⟨rfl, fun e _ => Nat.zero_le _⟩ (fun b d hb => by omega) (Or.inl rfl) (by omega)
  · rw [if_neg hw]
    exact ⟨fun _ => h0 hw _ _ _ _ _, fun u => absurd rfl u⟩
end MFA
