/-! an order that is told as a number -/
def Ord (m : Nat) (x : Int32) (r : Nat → Nat) : Prop := Pm m r ∧ x = jn (onum r m : Int)
theorem inj_Pm {m : Nat} {t : Nat → Nat} (h1 : ∀ q, q < m → t q < m) (h2 : ∀ p q, p < m → q < m → t p = t q → p = q) : Pm m t := by
  refine ⟨h1, h2, fun c hc => ?_⟩
  by_cases h : ∃ p, p < m ∧ t p = c
  · exact h
  · have := inj_lt h2 h1 hc (fun j a b => h ⟨j, a, b⟩)
    omega
theorem dt_congr {m : Nat} {r s : Nat → Nat} : ∀ {d : Nat}, d ≤ m → (∀ q, m - d ≤ q → q < m → r q = s q) → dt m r d = dt m s d
  | 0, _, _ => rfl
  | d + 1, hd, h => by
    unfold dt
    rw [dt_congr (d := d) (by omega) (fun q a b => h q (by omega) b), h _ (Nat.le_refl _) (by omega)]
section TLD
variable {N m : Nat} {sd : Nat → Int32}
theorem onum_bd {r : Nat → Nat} (hm : m ≤ 7) (hr : Pm m r) : onum r m < 2147483648 := by
  have := onum_le hm hr; omega
theorem wm_rankTold {x : Int32} {Q : Int32 → (Nat → Int32) → Prop} {rw' : Nat → Int32} (hN : 20 ≤ N) (hm : m ≤ 7) (hsd : sd 2 = jn m) (h1 : ∀ r, Ord m x r → ∀ rw2, Q (jn (rk m r : Int)) rw2) (h0 : (∀ r, ¬ Ord m x r) → ∀ rw2, Q (-1) rw2) : wp_X12_rankTold N sd Q x rw' := by
  obtain ⟨a, hxa, har⟩ := jn_of x
  unfold wp_X12_rankTold
  rw [show (2 : Int32).toNatClampNeg = 2 from rfl, hsd]
  refine ⟨by unfold vp_in; decide, fun x1 e1 => ?_⟩
  rw [li_1, jn_sub] at e1
  have hcon : ∀ r, Ord m x r → a = (onum r m : Int) := by
    rintro r ⟨hr, e⟩
    have := onum_bd hm hr
    rw [hxa, jn_eq (by omega) (by omega)] at e
    exact e
  by_cases ha : 0 ≤ a
  · obtain ⟨n, rfl⟩ : ∃ n : Nat, a = n := ⟨a.toNat, by omega⟩
    have key : ∀ (k p y : Nat) (t : Nat → Nat) (v2 v3 v4 : Int32) (rw' : Nat → Int32), v4 = jn ((p : Int) - 1) → p ≤ m → v2 = jn y → y ≤ n → v3 = jn (bs (fun c => decide (∃ q, q < m ∧ p ≤ q ∧ t q = c)) m : Int) → (∀ q, p ≤ q → q < m → t q < m ∧ rw' q = jn (t q : Int)) → (∀ q q', p ≤ q → q < m → p ≤ q' → q' < m → t q = t q' → q = q') → n = y * 10 ^ (m - p) + dt m t (m - p) → (∀ r, Ord m x r → y = onum r p ∧ ∀ q, p ≤ q → q < m → r q = t q) → p < k → wp_X12_rankTold_14 N sd Q k x v2 v3 v4 rw' := by
      intro k
      induction k with
      | zero => intro p y t v2 v3 v4 rw' _ _ _ _ _ _ _ _ _ h2; omega
      | succ k ih =>
        intro p y t v2 v3 v4 rw' e4 hp e2 hy e3 ht hti hn hr hk
        unfold wp_X12_rankTold_14 wp_X12_rankTold_94 wp_X12_rankTold_82 wp_X12_rankTold_45
        subst e4 e2
        refine ⟨fun z => ?_, fun z => ⟨by decide, fun x3 q3 => ?_⟩⟩
        · simp (disch := omega) only [jn_le, jn_lt, jn_eq, jn_in, jn_add, jn_sub, jn_mul, jn_neg, li_0, li_1, li_2, li_3, li_4, li_5, li_6, li_7, li_8, li_9, li_10, li_11, li_12, li_13, li_14, li_15, li_16, li_17, li_18, li_20, li_24, li_29, li_30, li_31, li_32, li_37, li_39, li_40, li_42, li_43, li_45, li_46, li_47, li_48, li_53, li_57, li_59, li_60, li_61, li_62, li_63, li_80, li_81, li_91, li_93, li_97, li_100, li_122, li_200, li_255, li_256, li_257, li_258, li_259, li_260, li_300, li_314, li_400, li_580, li_999, li_5040, li_9999, li_65536, li_99999, li_7654321] at z
          have hp0 : p = 0 := by omega
          subst hp0
          rw [li_0, jn_eq (by omega) (by omega)]
          refine ⟨fun w => ⟨fun w2 => ?_, fun w2 => ?_⟩, fun w => ?_⟩
          · have hP : Pm m t := inj_Pm (fun q hq => (ht q (by omega) hq).1) (fun q q' a b c => hti q q' (by omega) a (by omega) b c)
            refine wm_rankOf2 (r := t) (by omega) hm hsd (Pm8 hm hP) (fun q hq => (ht q (by omega) hq).2) (h1 t ⟨hP, ?_⟩ _)
            rw [hxa, onum_all]
            have y0 : y = 0 := by omega
            rw [y0, Nat.zero_mul, Nat.zero_add, Nat.sub_zero] at hn
            rw [hn]
          · rw [hxa, jn_le (by omega) (by omega)] at w2; omega
          · refine h0 (fun r hO => ?_) _
            have := (hr r hO).1
            have e0 : onum r 0 = 0 := rfl
            omega
        · simp (disch := omega) only [jn_le, jn_lt, jn_eq, jn_in, jn_add, jn_sub, jn_mul, jn_neg, li_0, li_1, li_2, li_3, li_4, li_5, li_6, li_7, li_8, li_9, li_10, li_11, li_12, li_13, li_14, li_15, li_16, li_17, li_18, li_20, li_24, li_29, li_30, li_31, li_32, li_37, li_39, li_40, li_42, li_43, li_45, li_46, li_47, li_48, li_53, li_57, li_59, li_60, li_61, li_62, li_63, li_80, li_81, li_91, li_93, li_97, li_100, li_122, li_200, li_255, li_256, li_257, li_258, li_259, li_260, li_300, li_314, li_400, li_580, li_999, li_5040, li_9999, li_65536, li_99999, li_7654321] at z
          obtain ⟨p, rfl⟩ : ∃ p', p = p' + 1 := ⟨p - 1, by omega⟩
          rw [jn_div10 (by omega), li_10, jn_mul, jn_sub, li_1, jn_sub] at q3
          have hc3 : x3 = jn (((y % 10 : Nat) : Int) - 1) := by rw [q3]; exact congrArg jn (by omega)
          have hO : ∀ r, Ord m x r → y % 10 = r p + 1 ∧ y / 10 = onum r p ∧ r p < m := by
            intro r hO
            have h3 := (hr r hO).1
            have h4 := hO.1.1 p (by omega)
            rw [onum] at h3
            omega
          subst hc3
          refine wm_isChild hm hsd ?_
          have easC : asC m (jn (((y % 10 : Nat) : Int) - 1)) = if 0 ≤ ((y % 10 : Nat) : Int) - 1 ∧ ((y % 10 : Nat) : Int) - 1 < m then some (((y % 10 : Nat) : Int) - 1).toNat else none := by
            unfold asC; rw [jn_toInt (by omega)]
          rw [easC]
          by_cases hch : 0 ≤ ((y % 10 : Nat) : Int) - 1 ∧ ((y % 10 : Nat) : Int) - 1 < m
          · rw [if_pos hch, if_pos (Option.isSome_some)]
            refine ⟨fun w => absurd w (by decide), fun _ => ?_⟩
            obtain ⟨c, hc⟩ : ∃ c : Nat, ((y % 10 : Nat) : Int) - 1 = c := ⟨y % 10 - 1, by omega⟩
            rw [hc] at hch ⊢
            have hcm : c < m := by omega
            have hbit : (bs (fun c => decide (∃ q, q < m ∧ p + 1 ≤ q ∧ t q = c)) m).testBit c = decide (∃ q, q < m ∧ p + 1 ≤ q ∧ t q = c) := by
              rw [bs_bit, decide_eq_true hcm, Bool.true_and]
            refine wm_isOf (bs_lt7 hm) (by omega) e3 rfl (fun bt => ⟨fun w => absurd w (by decide), fun _ => ?_⟩) (fun bt => ⟨fun _ => ?_, fun w => absurd rfl w⟩)
            · rw [hbit, decide_eq_true_eq] at bt
              obtain ⟨q, b1, b2, b3⟩ := bt
              refine h0 (fun r hOr => ?_) _
              have h5 := (hr r hOr).2 q b2 b1
              have h6 := hO r hOr
              have := hOr.1.2.1 p q (by omega) b1 (by rw [h5, b3]; omega)
              omega
            · rw [hbit, decide_eq_false_iff_not] at bt
              intro x6 q6
              refine ⟨by simp (disch := omega) only [jn_le, jn_lt, jn_eq, jn_in, jn_add, jn_sub, jn_mul, jn_neg, li_0, li_1, li_2, li_3, li_4, li_5, li_6, li_7, li_8, li_9, li_10, li_11, li_12, li_13, li_14, li_15, li_16, li_17, li_18, li_20, li_24, li_29, li_30, li_31, li_32, li_37, li_39, li_40, li_42, li_43, li_45, li_46, li_47, li_48, li_53, li_57, li_59, li_60, li_61, li_62, li_63, li_80, li_81, li_91, li_93, li_97, li_100, li_122, li_200, li_255, li_256, li_257, li_258, li_259, li_260, li_300, li_314, li_400, li_580, li_999, li_5040, li_9999, li_65536, li_99999, li_7654321] <;> omega, fun a7 q7 => ⟨by decide, fun x8 q8 => ?_⟩⟩
              rw [show (((p + 1 : Nat) : Int) - 1) = (p : Int) by omega] at q7
              rw [jn_cln (by omega)] at q7
              rw [jn_div10 (by omega)] at q8
              refine ih p (y / 10) (un t p c) _ _ _ a7 ?_ (by omega) q8 (by omega) ?_ (fun q b1 b2 => ?_) (fun q q' b1 b2 b3 b4 b5 => ?_) ?_ (fun r hOr => ⟨(hO r hOr).2.1, fun q b1 b2 => ?_⟩) (by omega)
              · rw [show (-1 : Int32) = jn (-1) from rfl, jn_add]; exact congrArg jn (by omega)
              · rw [q6, e3, jn_bit (by omega), jn_or]
                refine congrArg (fun u : Nat => jn (u : Int)) (bs_is (fun d => ?_))
                rw [Nat.testBit_or, bs_bit]
                by_cases e : d = c
                · subst e
                  rw [Nat.testBit_two_pow_self, Bool.or_true, decide_eq_true hcm, Bool.true_and]
                  exact (decide_eq_true ⟨p, by omega, Nat.le_refl _, un_at⟩).symm
                · rw [Nat.testBit_two_pow_of_ne (fun q => e q.symm), Bool.or_false]
                  congr 1
                  refine decide_eq_decide.mpr ⟨fun ⟨q, b1, b2, b3⟩ => ⟨q, b1, by omega, by rw [un_ne (by omega)]; exact b3⟩, fun ⟨q, b1, b2, b3⟩ => ?_⟩
                  by_cases e2 : q = p
                  · rw [e2, un_at] at b3; exact absurd b3.symm e
                  · rw [un_ne e2] at b3; exact ⟨q, b1, by omega, b3⟩
              · by_cases e : q = p
                · rw [e, un_at, q7, upd_at]; exact ⟨hcm, rfl⟩
                · rw [un_ne e, q7, upd_ne e]; exact ht q (by omega) b2
              · by_cases e : q = p
                · by_cases e' : q' = p
                  · omega
                  · rw [e, un_at, un_ne e'] at b5
                    exact absurd ⟨q', b4, by omega, b5.symm⟩ bt
                · by_cases e' : q' = p
                  · rw [e', un_at, un_ne e] at b5
                    exact absurd ⟨q, b2, by omega, b5⟩ bt
                  · rw [un_ne e, un_ne e'] at b5
                    exact hti q q' (by omega) b2 (by omega) b4 b5
              · rw [hn, show m - p = (m - (p + 1)) + 1 by omega, dt, show m - (m - (p + 1) + 1) = p by omega, un_at, dt_congr (r := un t p c) (s := t) (d := m - (p + 1)) (by omega) (fun q b1 b2 => un_ne (by omega)), ← Nat.add_assoc, Nat.pow_succ]
                congr 1
                have hyc : y = y / 10 * 10 + (c + 1) := by omega
                generalize 10 ^ (m - (p + 1)) = W
                have e5 : y / 10 * (W * 10) = y / 10 * 10 * W := by rw [Nat.mul_assoc, Nat.mul_comm W 10]
                rw [e5, ← Nat.add_mul, ← hyc]
              · by_cases e : q = p
                · rw [e, un_at]; have := hO r hOr; omega
                · rw [un_ne e]; exact (hr r hOr).2 q (by omega) b2
          · rw [if_neg hch]
            refine ⟨fun _ => h0 (fun r hOr => ?_) _, fun w => absurd rfl w⟩
            have := hO r hOr
            omega
    refine key N m n (fun _ => 0) _ _ _ rw' e1 (Nat.le_refl m) hxa (Nat.le_refl n) ?_ (fun q b1 b2 => by omega) (fun q q' b1 b2 => by omega) ?_ (fun r hO => ⟨?_, fun q b1 b2 => by omega⟩) (by omega)
    · have : bs (fun c => decide (∃ q, q < m ∧ m ≤ q ∧ 0 = c)) m = 0 := by
        refine (bs_is (fun d => ?_)).symm
        have : ¬ ∃ q, q < m ∧ m ≤ q ∧ 0 = d := by rintro ⟨q, b1, b2, b3⟩; omega
        rw [Nat.zero_testBit, decide_eq_false this, Bool.and_false]
      rw [this]; rfl
    · rw [Nat.sub_self]; show n = n * 1 + 0; omega
    · have := hcon r hO; omega
  · have no : ∀ r, ¬ Ord m x r := by
      intro r hO
      have := hcon r hO
      omega
    obtain ⟨k, rfl⟩ : ∃ k, N = k + 1 := ⟨N - 1, by omega⟩
    unfold wp_X12_rankTold_14 wp_X12_rankTold_94 wp_X12_rankTold_82 wp_X12_rankTold_45
    subst e1
    refine ⟨fun z => ?_, fun z => ⟨by decide, fun x3 q3 => ?_⟩⟩
    · rw [hxa]
      refine ⟨fun w => ⟨fun w2 => ?_, fun w2 => h0 no _⟩, fun w => h0 no _⟩
      rw [li_0, jn_le (by omega) (by omega)] at w2; omega
    · refine wm_isChild hm hsd ?_
      have e : asC m x3 = none := by
        have hd := jn_div (a := a) (k := 10) har (by omega)
        rw [hxa, show (10 : Int32) = jn ((10 : Nat) : Int) from rfl, hd, jn_mul, jn_sub, li_1, jn_sub] at q3
        have h5 : a.tdiv ((10 : Nat) : Int) = -((-a) / 10) := by
          rw [show a = -(-a) by omega, Int.neg_tdiv, Int.tdiv_eq_ediv_of_nonneg (by omega)]
          omega
        unfold asC
        rw [q3, h5, jn_toInt (by omega), if_neg (by omega)]
      rw [e]
      exact ⟨fun _ => h0 no _, fun w => absurd rfl w⟩
end TLD
