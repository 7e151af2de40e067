/-! the reference: the fewest leaps -/
def aFw (E : Nat → Nat → Nat → Prop) (S T : Nat) (x : Int) : Prop := (∃ d : Nat, Ds E S T d ∧ d < 5040 ∧ x = d) ∨ ((∀ d, ¬ Ds E S T d) ∧ x = -2)
theorem aFw_un {E : Nat → Nat → Nat → Prop} {S T : Nat} {x y : Int} (h : aFw E S T x) (h' : aFw E S T y) : x = y := by
  rcases h with ⟨d, h1, -, h2⟩ | ⟨h1, h2⟩
  · rcases h' with ⟨e, g1, -, g2⟩ | ⟨g1, g2⟩
    · rw [h2, g2, Ds_un h1 g1]
    · exact absurd h1 (g1 d)
  · rcases h' with ⟨e, g1, -, g2⟩ | ⟨g1, g2⟩
    · exact absurd g1 (h1 e)
    · rw [h2, g2]
section MFW
variable {N m sp : Nat} {LP BK O : Nat → Nat} {sd : Nat → Int32}
/-- how far an order is, as the search's row says -/
theorem mB_at {E : Nat → Nat → Nat → Prop} {S F : Nat} {ro dp : Nat → Nat} {fa qu : Nat → Int32} {re : Int32} (hB : mB m F ro dp fa qu re) (hF : FB E S F ro dp) {k : Nat} (hk : k < 5040) : (∃ d, Ds E S k d ∧ d < 5040 ∧ fa k = jn (d : Int)) ∨ ((∀ d, ¬ Ds E S k d) ∧ fa k = -1) := by
  obtain ⟨c1, c2, c3, c4⟩ := hB
  by_cases hj : ∃ j, j < F ∧ ro j = k
  · obtain ⟨j, j1, j2⟩ := hj
    obtain ⟨-, -, g3, g4, -⟩ := c3 j j1
    subst j2
    exact Or.inl ⟨dp j, FB_Ds hF j1, by omega, g3⟩
  · refine Or.inr ⟨fun d hd => ?_, c4 k hk (fun j a b => hj ⟨j, a, b⟩)⟩
    obtain ⟨j, j1, j2, -⟩ := (FB_iff hF).mp hd
    exact hj ⟨j, j1, j2⟩
theorem wm_fewest {x : Int32} {Q : Int32 → (Nat → Int32) → (Nat → Int32) → (Nat → Int32) → (Nat → Int32) → Int32 → Prop} {rw' rt' fa qu : Nat → Int32} {re : Int32} (hN : 6000 ≤ N) (hq : mQ m sp LP BK sd) (hs6 : sp ≤ 6) (hO : Pm m O) (hpl : ∀ p : Nat, p < m → sd (13 + 4 * O p) = jn p) (hla : sd 0 = 1)
    (h0 : (∀ r, ¬ Ord m x r) → ∀ rw' rt' fa qu re, Q (-1) rw' rt' fa qu re) (h1 : ∀ r, Ord m x r → ∀ y, aFw (Lg m sp (clf LP BK)) (rk m O) (rk m r) y → ∀ rw' rt' fa qu re, Q (jn y) rw' rt' fa qu re) : wp_X12_fewest N sd Q x rw' rt' fa qu re := by
  have hm := hq.2.2.2.2.1
  have hk := rk_lt (r := O) hm
  unfold wp_X12_fewest wp_X12_fewest_47 wp_X12_isLane wp_X12_isLane_15
  rw [show (0 : Int32).toNatClampNeg = 0 from rfl, hla]
  refine ⟨by unfold vp_in; decide, fun _ => ⟨Or.inr rfl, fun z => absurd z (by decide), fun _ => ?_⟩, fun z => absurd rfl z⟩
  refine wm_rankTold (by omega) hm hq.1 (fun r hr rw2 => ⟨fun _ => ?_, fun z => ?_⟩) (fun hno rw2 => ⟨fun z => absurd z (by decide), fun _ => h0 hno _ _ _ _ _⟩)
  · refine wm_seeks hN hm hs6 hq.1 hq.2.1 (WY_B (by omega) hq) hr.1 rfl (fun F ro dp rw' rt' fa qu re hB hF => ?_)
    refine wm_rankNow (by omega) hm hq.1 hO hpl (fun rw3 _ => ⟨by simp (disch := omega) only [jn_le, jn_lt, jn_eq, jn_in, jn_add, jn_sub, jn_mul, jn_neg, li_0, li_1, li_2, li_3, li_4, li_5, li_6, li_7, li_8, li_9, li_10, li_11, li_12, li_13, li_14, li_15, li_16, li_17, li_18, li_20, li_24, li_29, li_30, li_31, li_32, li_37, li_39, li_40, li_42, li_43, li_45, li_46, li_47, li_48, li_53, li_57, li_59, li_60, li_61, li_62, li_63, li_80, li_81, li_91, li_93, li_97, li_100, li_122, li_200, li_255, li_256, li_257, li_258, li_259, li_260, li_300, li_314, li_400, li_580, li_999, li_5040, li_9999, li_65536, li_99999, li_7654321] <;> omega, fun x11 e11 => ?_⟩)
    rw [jn_cln (by omega)] at e11
    rcases mB_at hB hF hk with ⟨d, d1, d2, d3⟩ | ⟨d1, d2⟩
    · rw [d3] at e11
      subst e11
      refine ⟨fun _ => h1 r hr _ (Or.inl ⟨d, Ds_rl.mp d1, d2, rfl⟩) _ _ _ _ _, fun z => ?_⟩
      rw [li_0, jn_le (by omega) (by omega)] at z; omega
    · rw [d2] at e11
      subst e11
      exact ⟨fun z => absurd z (by decide), fun _ => h1 r hr _ (Or.inr ⟨fun d hd => d1 d (Ds_rl.mpr hd), rfl⟩) _ _ _ _ _⟩
  · have := rk_lt (r := r) hm
    rw [li_0, jn_le (by omega) (by omega)] at z; omega
end MFW
