/-! the reference: step and orders, as they are asked -/
section MS2
variable {N m sp : Nat} {LP BK O : Nat → Nat} {sd : Nat → Int32}
theorem wm_step {x : Int32} {i w : Int} {y z : Int32} {Q : Int32 → (Nat → Int32) → (Nat → Int32) → (Nat → Int32) → (Nat → Int32) → Int32 → Int32 → Int32 → Prop} {rw' rt' fa qu : Nat → Int32} {re sw' sb : Int32} (hN : 6000 ≤ N) (hq : mQ m sp LP BK sd) (hs6 : sp ≤ 6) (hO : Pm m O) (hpl : ∀ p : Nat, p < m → sd (13 + 4 * O p) = jn p) (hla : sd 0 = 1) (hy : y = jn i) (ri : -2147483648 ≤ i ∧ i < 2147483648) (hz : z = jn w) (rw0 : -2147483648 ≤ w ∧ w < 2147483648)
    (h0 : (¬ (0 ≤ w ∧ w ≤ 1) ∨ i < 0 ∨ ∀ r, ¬ Ord m x r) → ∀ rw' rt' fa qu re sw' sb, Q (-1) rw' rt' fa qu re sw' sb)
    (h1 : ∀ r, Ord m x r → 0 ≤ i → (0 ≤ w ∧ w ≤ 1) → (∀ D : Nat, Ds (Lg m sp (clf LP BK)) (rk m O) (rk m r) D → (D : Int) ≤ i) → ∀ rw' rt' fa qu re sw' sb, Q (-2) rw' rt' fa qu re sw' sb)
    (h2 : ∀ r, Ord m x r → 0 ≤ i → (0 ≤ w ∧ w ≤ 1) → ∀ D l : Nat, Ds (Lg m sp (clf LP BK)) (rk m O) (rk m r) D → i < D → Gp (Lg m sp (clf LP BK)) (rk m r) i.toNat (rk m O) D l → ∀ rw' rt' fa qu re sw' sb, Q (if w = 0 then jn ((l / 8 : Nat) : Int) else jn ((l % 8 : Nat) : Int)) rw' rt' fa qu re sw' sb) : wp_X12_step N sd Q x y z rw' rt' fa qu re sw' sb := by
  have hm := hq.2.2.2.2.1
  have hk := rk_lt (r := O) hm
  unfold wp_X12_step wp_X12_step_21 wp_X12_step_71
  refine wm_isLane (t := 1) (by omega) (by rw [hla]; rfl) ⟨fun u => absurd u (by decide), fun _ => ?_⟩
  subst hy hz
  refine wm_in (a := w) (b := 0) (c := 1) (jn_l rw0) rfl rfl rw0 (by omega) (by omega) ?_
  by_cases hw : 0 ≤ w ∧ w ≤ 1
  · rw [if_pos hw]
    refine ⟨fun u => absurd u (by decide), fun _ => ?_⟩
    rw [show ((0 : Int32) ≤ jn i) = (0 ≤ i) from by rw [li_0, jn_le (by omega) (by omega)]]
    refine ⟨fun hi => ?_, fun hi => h0 (Or.inr (Or.inl (by omega))) _ _ _ _ _ _ _⟩
    refine wm_rankTold (by omega) hm hq.1 (fun r hr rw2 => ⟨fun _ => ?_, fun u => ?_⟩) (fun hno rw2 => ⟨fun u => absurd u (by decide), fun _ => h0 (Or.inr (Or.inr hno)) _ _ _ _ _ _ _⟩)
    · refine wm_seeks hN hm hs6 hq.1 hq.2.1 (WY_B (by omega) hq) hr.1 rfl (fun F ro dp rw' rt' fa qu re hB hF => ?_)
      refine wm_rankNow (by omega) hm hq.1 hO hpl (fun rw3 _ => ⟨by simp (disch := omega) only [jn_le, jn_lt, jn_eq, jn_in, jn_add, jn_sub, jn_mul, jn_neg, li_0, li_1, li_2, li_3, li_4, li_5, li_6, li_7, li_8, li_9, li_10, li_11, li_12, li_13, li_14, li_15, li_16, li_17, li_18, li_20, li_24, li_29, li_30, li_31, li_32, li_37, li_39, li_40, li_42, li_43, li_45, li_46, li_47, li_48, li_53, li_57, li_59, li_60, li_61, li_62, li_63, li_80, li_81, li_91, li_93, li_97, li_100, li_122, li_200, li_255, li_256, li_257, li_258, li_259, li_260, li_300, li_314, li_400, li_580, li_999, li_5040, li_9999, li_65536, li_99999, li_7654321] <;> omega, ?_⟩)
      rw [jn_cln (by omega)]
      rcases mB_at hB hF hk with ⟨d, d1, d2, d3⟩ | ⟨d1, d2⟩
      · have d1' := Ds_rl.mp d1
        rw [d3, show (jn (d : Int) < 0) = ((d : Int) < 0) from by rw [li_0, jn_lt (by omega) (by omega)], jn_lt (by omega) (by omega)]
        refine ⟨fun u => by omega, fun _ => ⟨by simp (disch := omega) only [jn_le, jn_lt, jn_eq, jn_in, jn_add, jn_sub, jn_mul, jn_neg, li_0, li_1, li_2, li_3, li_4, li_5, li_6, li_7, li_8, li_9, li_10, li_11, li_12, li_13, li_14, li_15, li_16, li_17, li_18, li_20, li_24, li_29, li_30, li_31, li_32, li_37, li_39, li_40, li_42, li_43, li_45, li_46, li_47, li_48, li_53, li_57, li_59, li_60, li_61, li_62, li_63, li_80, li_81, li_91, li_93, li_97, li_100, li_122, li_200, li_255, li_256, li_257, li_258, li_259, li_260, li_300, li_314, li_400, li_580, li_999, li_5040, li_9999, li_65536, li_99999, li_7654321] <;> omega, fun u => ?_, fun u => h1 r hr hi hw (fun D hD => by have := Ds_un d1' hD; omega) _ _ _ _ _ _ _⟩⟩
        obtain ⟨n, rfl⟩ : ∃ n : Nat, i = n := ⟨i.toNat, by omega⟩
        refine wm_stepLoop (G := fun l => Gp (Lg m sp (clf LP BK)) (rk m r) n (rk m O) d l) hN (by omega) hq hs6 hB hF (fun l hl rw' rt' sw' sb => ?_) N 0 d O _ _ _ _ _ _ rfl rfl hO d1' (by omega) (by omega) (fun _ l hl => hl) (fun e => by omega) (by omega)
        have := h2 r hr hi hw d l d1' u hl rw' rt' fa qu re sw' sb
        have ew : (jn w = 0) = (w = 0) := by rw [li_0, jn_eq (by omega) (by omega)]
        by_cases w0 : w = 0
        · rw [if_pos w0] at this
          rw [if_pos (by rw [ew]; exact w0)]; exact this
        · rw [if_neg w0] at this
          rw [if_neg (by rw [ew]; exact w0)]; exact this
      · rw [d2]
        refine ⟨fun _ => h1 r hr hi hw (fun D hD => absurd (Ds_rl.mpr hD) (d1 D)) _ _ _ _ _ _ _, fun u => absurd (by decide) u⟩
    · have := rk_lt (r := r) hm
      rw [li_0, jn_le (by omega) (by omega)] at u; omega
  · rw [if_neg hw]
    exact ⟨fun _ => h0 (Or.inl hw) _ _ _ _ _ _ _, fun u => absurd rfl u⟩
theorem wm_orders {i : Int} {x : Int32} {Q : Int32 → (Nat → Int32) → (Nat → Int32) → (Nat → Int32) → (Nat → Int32) → Int32 → Prop} {rw' rt' fa qu : Nat → Int32} {re : Int32} (hN : 6000 ≤ N) (hq : mQ m sp LP BK sd) (hs6 : sp ≤ 6) (hO : Pm m O) (hpl : ∀ p : Nat, p < m → sd (13 + 4 * O p) = jn p) (hla : sd 0 = 1) (hx : x = jn i) (ri : -2147483648 ≤ i ∧ i < 2147483648)
    (h0 : ¬ (0 ≤ i ∧ i ≤ 30) → ∀ rw' rt' fa qu re, Q (-1) rw' rt' fa qu re) (h1 : (0 ≤ i ∧ i ≤ 30) → ∀ y, aOr (Lg m sp (clf LP BK)) (rk m O) i.toNat y → ∀ rw' rt' fa qu re, Q (jn (y : Int)) rw' rt' fa qu re) : wp_X12_orders N sd Q x rw' rt' fa qu re := by
  have hm := hq.2.2.2.2.1
  unfold wp_X12_orders wp_X12_orders_19
  refine wm_isLane (t := 1) (by omega) (by rw [hla]; rfl) ⟨fun u => absurd u (by decide), fun _ => ?_⟩
  subst hx
  refine wm_in (a := i) (b := 0) (c := 30) (jn_l ri) rfl rfl ri (by omega) (by omega) ?_
  by_cases hw : 0 ≤ i ∧ i ≤ 30
  · rw [if_pos hw]
    refine ⟨fun u => absurd u (by decide), fun _ => ?_⟩
    obtain ⟨n, rfl⟩ : ∃ n : Nat, i = n := ⟨i.toNat, by omega⟩
    refine wm_rankNow (by omega) hm hq.1 hO hpl (fun rw3 _ => ?_)
    refine wm_seeks hN hm hs6 hq.1 hq.2.1 (WY_F (by omega) hq) hO rfl (fun F ro dp rw' rt' fa qu re hB hF => ?_)
    have key : ∀ (k j : Nat) (g : Nat → Bool) (v2 v3 : Int32), v3 = jn j → j ≤ 5040 → v2 = jn (cnt g j : Int) → (∀ q, q < j → (g q = true ↔ ∃ d, d ≤ n ∧ Ds (Lg m sp (clf LP BK)) (rk m O) q d)) → 5040 < k + j → wp_X12_orders_34 N sd Q k (jn (n : Int)) v2 v3 rw' rt' fa qu re := by
      intro k
      induction k with
      | zero => intro j g v2 v3 _ h1 _ _ h2; omega
      | succ k ih =>
        intro j g v2 v3 e3 hj e2 hg hk
        unfold wp_X12_orders_34 wp_X12_orders_63
        subst e3
        refine ⟨fun z => ?_, fun z => ?_⟩
        · simp (disch := omega) only [jn_le, jn_lt, jn_eq, jn_in, jn_add, jn_sub, jn_mul, jn_neg, li_0, li_1, li_2, li_3, li_4, li_5, li_6, li_7, li_8, li_9, li_10, li_11, li_12, li_13, li_14, li_15, li_16, li_17, li_18, li_20, li_24, li_29, li_30, li_31, li_32, li_37, li_39, li_40, li_42, li_43, li_45, li_46, li_47, li_48, li_53, li_57, li_59, li_60, li_61, li_62, li_63, li_80, li_81, li_91, li_93, li_97, li_100, li_122, li_200, li_255, li_256, li_257, li_258, li_259, li_260, li_300, li_314, li_400, li_580, li_999, li_5040, li_9999, li_65536, li_99999, li_7654321] at z
          have e : j = 5040 := by omega
          subst e
          rw [e2]
          refine h1 hw _ ⟨F, ro, dp, hF, fun j hj => (hB.2.2.1 j hj).2.1, ?_⟩ _ _ _ _ _
          exact FB_cnt hF (fun j hj => (hB.2.2.1 j hj).2.1) hg
        · simp (disch := omega) only [jn_le, jn_lt, jn_eq, jn_in, jn_add, jn_sub, jn_mul, jn_neg, li_0, li_1, li_2, li_3, li_4, li_5, li_6, li_7, li_8, li_9, li_10, li_11, li_12, li_13, li_14, li_15, li_16, li_17, li_18, li_20, li_24, li_29, li_30, li_31, li_32, li_37, li_39, li_40, li_42, li_43, li_45, li_46, li_47, li_48, li_53, li_57, li_59, li_60, li_61, li_62, li_63, li_80, li_81, li_91, li_93, li_97, li_100, li_122, li_200, li_255, li_256, li_257, li_258, li_259, li_260, li_300, li_314, li_400, li_580, li_999, li_5040, li_9999, li_65536, li_99999, li_7654321] at z
          refine ⟨by simp (disch := omega) only [jn_le, jn_lt, jn_eq, jn_in, jn_add, jn_sub, jn_mul, jn_neg, li_0, li_1, li_2, li_3, li_4, li_5, li_6, li_7, li_8, li_9, li_10, li_11, li_12, li_13, li_14, li_15, li_16, li_17, li_18, li_20, li_24, li_29, li_30, li_31, li_32, li_37, li_39, li_40, li_42, li_43, li_45, li_46, li_47, li_48, li_53, li_57, li_59, li_60, li_61, li_62, li_63, li_80, li_81, li_91, li_93, li_97, li_100, li_122, li_200, li_255, li_256, li_257, li_258, li_259, li_260, li_300, li_314, li_400, li_580, li_999, li_5040, li_9999, li_65536, li_99999, li_7654321] <;> omega, ?_⟩
          rw [jn_cln (by omega)]
          have go : ∀ (bv : Bool), (bv = true ↔ ∃ d, d ≤ n ∧ Ds (Lg m sp (clf LP BK)) (rk m O) j d) → ∀ x11 : Int32, x11 = v2 + (if bv = true then (1 : Int32) else 0) → wp_X12_orders_34 N sd Q k (jn (n : Int)) x11 (jn (j : Int) + 1) rw' rt' fa qu re := by
            intro bv hbv x11 e11
            refine ih (j + 1) (fun q => if q = j then bv else g q) _ _ (by (first | rfl | (simp (disch := omega) only [jn_add, jn_sub, jn_mul, jn_neg, li_0, li_1, li_2, li_3, li_4, li_5, li_6, li_7, li_8, li_9, li_10, li_11, li_12, li_13, li_14, li_15, li_16, li_17, li_18, li_20, li_24, li_29, li_30, li_31, li_32, li_37, li_39, li_40, li_42, li_43, li_45, li_46, li_47, li_48, li_53, li_57, li_59, li_60, li_61, li_62, li_63, li_80, li_81, li_91, li_93, li_97, li_100, li_122, li_200, li_255, li_256, li_257, li_258, li_259, li_260, li_300, li_314, li_400, li_580, li_999, li_5040, li_9999, li_65536, li_99999, li_7654321] <;> first | rfl | exact congrArg jn (by omega)) | exact congrArg jn (by omega))) (by omega) ?_ (fun q hq => ?_) (by omega)
            · have ec : cnt (fun q => if q = j then bv else g q) j = cnt g j := cnt_congr (fun q hq => if_neg (by omega))
              rw [e11, e2, cnt_succ, ec, if_pos rfl]
              cases bv
              · rw [if_neg (by decide), if_neg (by decide), li_0, jn_add]; rfl
              · rw [if_pos rfl, if_pos rfl, li_1, jn_add]; rfl
            · by_cases e : q = j
              · rw [if_pos e, e]; exact hbv
              · rw [if_neg e]; exact hg q (by omega)
          rcases mB_at hB hF (show j < 5040 by omega) with ⟨d, d1, d2, d3⟩ | ⟨d1, d2⟩
          · rw [d3]
            refine wm_in (a := (d : Int)) (b := 0) (c := (n : Int)) (jn_l (by omega)) rfl (jn_l (by omega)) (by omega) (by omega) (by omega) ?_
            by_cases hd : d ≤ n
            · rw [if_pos (by omega)]
              exact ⟨fun u => absurd u (by decide), fun _ x11 e11 => go true ⟨fun _ => ⟨d, hd, d1⟩, fun _ => rfl⟩ x11 (by rw [e11, if_pos rfl])⟩
            · rw [if_neg (by omega)]
              exact ⟨fun _ x11 e11 => go false ⟨fun u => absurd u (by decide), fun ⟨d', a, b⟩ => by have := Ds_un d1 b; omega⟩ x11 (by rw [e11, if_neg (by decide)]), fun u => absurd rfl u⟩
          · rw [d2, show (-1 : Int32) = jn (-1) from rfl]
            refine wm_in (a := -1) (b := 0) (c := (n : Int)) (jn_l (by omega)) rfl (jn_l (by omega)) (by omega) (by omega) (by omega) ?_
            rw [if_neg (by omega)]
            exact ⟨fun _ x11 e11 => go false ⟨fun u => absurd u (by decide), fun ⟨d', a, b⟩ => absurd b (d1 d')⟩ x11 (by rw [e11, if_neg (by decide)]), fun u => absurd rfl u⟩
    exact key N 0 (fun _ => false) _ _ rfl (by omega) rfl (fun q hq => by omega) (by omega)
  · rw [if_neg hw]
    exact ⟨fun _ => h0 hw _ _ _ _ _, fun u => absurd rfl u⟩
end MS2
