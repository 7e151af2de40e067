/-! the class: whether an order is told -/
theorem wl_bitCount8 {N n : Nat} {Q : Int32 → Prop} {x : Int32} (hn : n < 256) (hx : x = jn n) (h : Q (jn (cnt (fun c => n.testBit c) 8))) : wp_J6_bitCount_0f7a4 N Q x := by
  unfold wp_J6_bitCount_0f7a4
  intro x1 e1 x2 e2 x3 e3 x4 e4 x5 e5
  have key : ∀ n : Fin 256, ∀ p0 : Int32, p0 = jn (n.val : Int) → ∀ x1 : Int32, x1 = p0 - (((p0.toUInt32 >>> ((1 : Int32).toUInt32 &&& Int32.toUInt32 31)).toInt32) &&& (1431655765 : Int32)) → (∀ x2 : Int32, x2 = (x1 &&& (858993459 : Int32)) + (((x1.toUInt32 >>> ((2 : Int32).toUInt32 &&& Int32.toUInt32 31)).toInt32) &&& (858993459 : Int32)) → (∀ x3 : Int32, x3 = (x2 + ((x2.toUInt32 >>> ((4 : Int32).toUInt32 &&& Int32.toUInt32 31)).toInt32)) &&& (252645135 : Int32) → (∀ x4 : Int32, x4 = x3 + ((x3.toUInt32 >>> ((8 : Int32).toUInt32 &&& Int32.toUInt32 31)).toInt32) → (∀ x5 : Int32, x5 = x4 + ((x4.toUInt32 >>> ((16 : Int32).toUInt32 &&& Int32.toUInt32 31)).toInt32) → (x5 &&& (63 : Int32)) = jn (cnt (fun c => n.val.testBit c) 8))))) := by
    have k2 : ∀ n : Fin 256, (let p0 := jn (n.val : Int); let x1 := p0 - (((p0.toUInt32 >>> ((1 : Int32).toUInt32 &&& Int32.toUInt32 31)).toInt32) &&& (1431655765 : Int32)); let x2 := (x1 &&& (858993459 : Int32)) + (((x1.toUInt32 >>> ((2 : Int32).toUInt32 &&& Int32.toUInt32 31)).toInt32) &&& (858993459 : Int32)); let x3 := (x2 + ((x2.toUInt32 >>> ((4 : Int32).toUInt32 &&& Int32.toUInt32 31)).toInt32)) &&& (252645135 : Int32); let x4 := x3 + ((x3.toUInt32 >>> ((8 : Int32).toUInt32 &&& Int32.toUInt32 31)).toInt32); let x5 := x4 + ((x4.toUInt32 >>> ((16 : Int32).toUInt32 &&& Int32.toUInt32 31)).toInt32); (x5 &&& (63 : Int32)) = jn (cnt (fun c => n.val.testBit c) 8)) := by decide +kernel
    intro n p0 e0 x1 e1 x2 e2 x3 e3 x4 e4 x5 e5
    subst e0 e1 e2 e3 e4 e5
    exact k2 n
  rw [key ⟨n, hn⟩ x hx x1 e1 x2 e2 x3 e3 x4 e4 x5 e5]
  exact h
theorem cnt_all {f : Nat → Bool} : ∀ {n : Nat}, (∀ c, c < n → f c = true) → cnt f n = n
  | 0, _ => rfl
  | n + 1, h => by rw [cnt_succ, cnt_all (fun c hc => h c (by omega)), h n (by omega), if_pos rfl]
theorem cnt_shift {f : Nat → Bool} : ∀ {n : Nat}, cnt f (n + 1) = (if f 0 = true then 1 else 0) + cnt (fun c => f (c + 1)) n
  | 0 => by rw [cnt_succ]; show 0 + _ = _ + 0; omega
  | n + 1 => by rw [cnt_succ, cnt_shift, cnt_succ]; omega
theorem sur_Pm {m : Nat} {t : Nat → Nat} (h1 : ∀ q, q < m → t q < m) (h2 : ∀ c, c < m → ∃ q, q < m ∧ t q = c) : Pm m t := by
  have hat : ∀ c, c < m → t (iv t c m) = c ∧ iv t c m < m := by
    intro c hc
    obtain ⟨q, q1, q2⟩ := h2 c hc
    have key : ∀ n, n ≤ m → q < n → t (iv t c n) = c ∧ iv t c n < m := by
      intro n
      induction n with
      | zero => intro _ h; omega
      | succ n ih =>
        intro a b
        unfold iv
        by_cases e : t n = c
        · rw [if_pos e]; exact ⟨e, by omega⟩
        · rw [if_neg e]
          refine ih (by omega) ?_
          by_cases e2 : q = n
          · rw [e2] at q2; exact absurd q2 e
          · omega
    exact key m (Nat.le_refl m) q1
  have hs : Pm m (fun c => iv t c m) := by
    refine inj_Pm (fun c hc => (hat c hc).2) (fun c d a b e => ?_)
    have e' : iv t c m = iv t d m := e
    have := (hat c a).1
    rw [e', (hat d b).1] at this
    exact this.symm
  refine inj_Pm h1 (fun p q a b e => ?_)
  obtain ⟨c, c1, c2⟩ := hs.2.2 p a
  obtain ⟨d, d1, d2⟩ := hs.2.2 q b
  have c2' : iv t c m = p := c2
  have d2' : iv t d m = q := d2
  have h3 := (hat c c1).1
  have h4 := (hat d d1).1
  rw [c2'] at h3
  rw [d2'] at h4
  rw [← c2', ← d2', ← h3, ← h4, e]
section CIO
variable {N m : Nat}
theorem hit_cnt {t : Nat → Nat} (hm : m ≤ 7) (ht : ∀ q, q < m → t q < m) : cnt (fun d => decide (∃ q, q < m ∧ 0 ≤ q ∧ t q + 1 = d)) 8 = cnt (fun c => decide (∃ q, q < m ∧ t q = c)) m := by
  rw [cnt_shift, if_neg (by rw [decide_eq_true_eq]; rintro ⟨q, a, b, c⟩; omega), Nat.zero_add]
  have e := cnt_cut (f := fun c => decide (∃ q, q < m ∧ t q = c)) (a := m) (n := 7)
  rw [Nat.min_eq_left hm] at e
  rw [← e]
  refine cnt_congr (fun c _ => ?_)
  rw [← Bool.decide_and]
  refine decide_eq_decide.mpr ⟨fun ⟨q, a, b, d⟩ => ⟨⟨q, a, by omega⟩, ?_⟩, fun ⟨⟨q, a, d⟩, _⟩ => ⟨q, a, by omega, by omega⟩⟩
  have := ht q a; omega
theorem wl_isOrder {x : Int32} {Q : Int32 → Prop} (hN : 20 ≤ N) (hm : m ≤ 7) (h1 : ∀ r, Ord m x r → Q 1) (h0 : (∀ r, ¬ Ord m x r) → Q 0) : wp_X11_isOrder_N N 1 (jn m) Q x := by
  obtain ⟨a, hxa, har⟩ := jn_of x
  unfold wp_X11_isOrder_N
  refine ⟨fun z => absurd z (by decide), fun _ => ?_⟩
  have hcon : ∀ r, Ord m x r → a = (onum r m : Int) := by
    rintro r ⟨hr, e⟩
    have := onum_bd hm hr
    rw [hxa, jn_eq (by omega) (by omega)] at e
    exact e
  by_cases ha : 0 ≤ a
  · obtain ⟨n, rfl⟩ : ∃ n : Nat, a = n := ⟨a.toNat, by omega⟩
    have key : ∀ (k i p y : Nat) (t : Nat → Nat) (v2 v3 v4 : Int32), v4 = jn i → p + i = m → v2 = jn y → y ≤ n → v3 = jn (bs (fun d => decide (∃ q, q < m ∧ p ≤ q ∧ t q + 1 = d)) 8 : Int) → (∀ q, p ≤ q → q < m → t q < m) → n = y * 10 ^ (m - p) + dt m t (m - p) → (∀ r, Ord m x r → y = onum r p ∧ ∀ q, p ≤ q → q < m → r q = t q) → m < k + i → wp_X11_isOrder_N_22 N 1 (jn m) Q k v2 v3 v4 := by
      intro k
      induction k with
      | zero => intro i p y t v2 v3 v4 _ h1 _ _ _ _ _ _ h2; omega
      | succ k ih =>
        intro i p y t v2 v3 v4 e4 hp e2 hy e3 ht hn hr hk
        unfold wp_X11_isOrder_N_22 wp_X11_isOrder_N_109 wp_X11_isOrder_N_110 wp_X11_isOrder_N_69
        subst e4 e2
        refine ⟨fun z => ?_, fun z => ⟨by decide, fun x2 q2 => ⟨by decide, fun x3 q3 => ?_⟩⟩⟩
        · simp (disch := omega) only [jn_le, jn_lt, jn_eq, jn_in, jn_add, jn_sub, jn_mul, jn_neg, li_0, li_1, li_2, li_3, li_4, li_5, li_6, li_7, li_8, li_9, li_10, li_11, li_12, li_13, li_14, li_15, li_16, li_17, li_18, li_20, li_24, li_29, li_30, li_31, li_32, li_37, li_39, li_40, li_42, li_43, li_45, li_46, li_47, li_48, li_53, li_57, li_59, li_60, li_61, li_62, li_63, li_80, li_81, li_91, li_93, li_97, li_100, li_122, li_200, li_255, li_256, li_257, li_258, li_259, li_260, li_300, li_314, li_400, li_580, li_999, li_5040, li_9999, li_65536, li_99999, li_7654321] at z
          have hp0 : p = 0 := by omega
          subst hp0
          have ht0 : ∀ q, q < m → t q < m := fun q hq => ht q (by omega) hq
          rw [show (jn (y : Int) = 0) = (y = 0) from by rw [li_0, jn_eq (by omega) (by omega)]; exact propext ⟨fun u => by omega, fun u => by omega⟩]
          refine ⟨fun w => ?_, fun w => ⟨Or.inl rfl, h0 (fun r hO => ?_)⟩⟩
          · have hb8 := bs_lt (f := fun d => decide (∃ q, q < m ∧ 0 ≤ q ∧ t q + 1 = d)) (n := 8)
            refine wl_bitCount8 (Nat.lt_of_lt_of_le hb8 (by decide)) e3 ?_
            rw [cnt_bs (Nat.le_refl 8), hit_cnt hm ht0]
            have hcl := cnt_le (f := fun c => decide (∃ q, q < m ∧ t q = c)) (n := m)
            rw [jn_eq (by omega) (by omega)]
            refine ⟨fun u => ⟨Or.inr rfl, ?_⟩, fun u => ⟨Or.inl rfl, h0 (fun r hO => ?_)⟩⟩
            · have hP : Pm m t := sur_Pm ht0 (fun c hc => by
                have := cnt_full.mp (show cnt (fun c => decide (∃ q, q < m ∧ t q = c)) m = m by omega) c hc
                exact of_decide_eq_true this)
              refine h1 t ⟨hP, ?_⟩
              rw [hxa, onum_all]
              rw [w, Nat.zero_mul, Nat.zero_add, Nat.sub_zero] at hn
              rw [hn]
            · refine u ?_
              rw [cnt_all]
              intro c hc
              refine decide_eq_true ?_
              obtain ⟨q, b1, b2⟩ := hO.1.2.2 c hc
              exact ⟨q, b1, by rw [← (hr r hO).2 q (by omega) b1]; exact b2⟩
          · have := (hr r hO).1
            have e0 : onum r 0 = 0 := rfl
            omega
        · simp (disch := omega) only [jn_le, jn_lt, jn_eq, jn_in, jn_add, jn_sub, jn_mul, jn_neg, li_0, li_1, li_2, li_3, li_4, li_5, li_6, li_7, li_8, li_9, li_10, li_11, li_12, li_13, li_14, li_15, li_16, li_17, li_18, li_20, li_24, li_29, li_30, li_31, li_32, li_37, li_39, li_40, li_42, li_43, li_45, li_46, li_47, li_48, li_53, li_57, li_59, li_60, li_61, li_62, li_63, li_80, li_81, li_91, li_93, li_97, li_100, li_122, li_200, li_255, li_256, li_257, li_258, li_259, li_260, li_300, li_314, li_400, li_580, li_999, li_5040, li_9999, li_65536, li_99999, li_7654321] at z
          obtain ⟨p, rfl⟩ : ∃ p', p = p' + 1 := ⟨p - 1, by omega⟩
          rw [jn_div10 (by omega)] at q2 q3
          rw [li_10, jn_mul, jn_sub] at q2
          have hc2 : x2 = jn ((y % 10 : Nat) : Int) := by rw [q2]; exact congrArg jn (by omega)
          subst hc2
          have hO : ∀ r, Ord m x r → y % 10 = r p + 1 ∧ y / 10 = onum r p ∧ r p < m := by
            intro r hO
            have h3 := (hr r hO).1
            have h4 := hO.1.1 p (by omega)
            rw [onum] at h3
            omega
          refine ⟨fun w => h0 (fun r hOr => ?_), fun w => ⟨fun w2 x4 q4 => ?_, fun w2 => h0 (fun r hOr => ?_)⟩⟩
          · simp (disch := omega) only [jn_le, jn_lt, jn_eq, jn_in, jn_add, jn_sub, jn_mul, jn_neg, li_0, li_1, li_2, li_3, li_4, li_5, li_6, li_7, li_8, li_9, li_10, li_11, li_12, li_13, li_14, li_15, li_16, li_17, li_18, li_20, li_24, li_29, li_30, li_31, li_32, li_37, li_39, li_40, li_42, li_43, li_45, li_46, li_47, li_48, li_53, li_57, li_59, li_60, li_61, li_62, li_63, li_80, li_81, li_91, li_93, li_97, li_100, li_122, li_200, li_255, li_256, li_257, li_258, li_259, li_260, li_300, li_314, li_400, li_580, li_999, li_5040, li_9999, li_65536, li_99999, li_7654321] at w
            have := hO r hOr; omega
          · simp (disch := omega) only [jn_le, jn_lt, jn_eq, jn_in, jn_add, jn_sub, jn_mul, jn_neg, li_0, li_1, li_2, li_3, li_4, li_5, li_6, li_7, li_8, li_9, li_10, li_11, li_12, li_13, li_14, li_15, li_16, li_17, li_18, li_20, li_24, li_29, li_30, li_31, li_32, li_37, li_39, li_40, li_42, li_43, li_45, li_46, li_47, li_48, li_53, li_57, li_59, li_60, li_61, li_62, li_63, li_80, li_81, li_91, li_93, li_97, li_100, li_122, li_200, li_255, li_256, li_257, li_258, li_259, li_260, li_300, li_314, li_400, li_580, li_999, li_5040, li_9999, li_65536, li_99999, li_7654321] at w w2
            obtain ⟨c, hc⟩ : ∃ c : Nat, y % 10 = c + 1 := ⟨y % 10 - 1, by omega⟩
            rw [hc] at q4
            refine ih (i + 1) p (y / 10) (un t p c) _ _ _ (by (first | rfl | (simp (disch := omega) only [jn_add, jn_sub, jn_mul, jn_neg, li_0, li_1, li_2, li_3, li_4, li_5, li_6, li_7, li_8, li_9, li_10, li_11, li_12, li_13, li_14, li_15, li_16, li_17, li_18, li_20, li_24, li_29, li_30, li_31, li_32, li_37, li_39, li_40, li_42, li_43, li_45, li_46, li_47, li_48, li_53, li_57, li_59, li_60, li_61, li_62, li_63, li_80, li_81, li_91, li_93, li_97, li_100, li_122, li_200, li_255, li_256, li_257, li_258, li_259, li_260, li_300, li_314, li_400, li_580, li_999, li_5040, li_9999, li_65536, li_99999, li_7654321] <;> first | rfl | exact congrArg jn (by omega)) | exact congrArg jn (by omega))) (by omega) q3 (by omega) ?_ (fun q b1 b2 => ?_) ?_ (fun r hOr => ⟨(hO r hOr).2.1, fun q b1 b2 => ?_⟩) (by omega)
            · rw [q4, e3, jn_bit (by omega), jn_or]
              refine congrArg (fun u : Nat => jn (u : Int)) (bs_is (fun d => ?_))
              rw [Nat.testBit_or, bs_bit]
              by_cases e : d = c + 1
              · subst e
                rw [Nat.testBit_two_pow_self, Bool.or_true, decide_eq_true (show c + 1 < 8 by omega), Bool.true_and]
                exact (decide_eq_true ⟨p, by omega, Nat.le_refl _, by rw [un_at]⟩).symm
              · rw [Nat.testBit_two_pow_of_ne (fun q => e q.symm), Bool.or_false]
                congr 1
                refine decide_eq_decide.mpr ⟨fun ⟨q, b1, b2, b3⟩ => ⟨q, b1, by omega, by rw [un_ne (by omega)]; exact b3⟩, fun ⟨q, b1, b2, b3⟩ => ?_⟩
                by_cases e2 : q = p
                · rw [e2, un_at] at b3; exact absurd b3.symm e
                · rw [un_ne e2] at b3; exact ⟨q, b1, by omega, b3⟩
            · by_cases e : q = p
              · rw [e, un_at]; omega
              · rw [un_ne e]; exact ht q (by omega) b2
            · rw [hn, show m - p = (m - (p + 1)) + 1 by omega, dt, show m - (m - (p + 1) + 1) = p by omega, un_at, dt_congr (r := un t p c) (s := t) (d := m - (p + 1)) (by omega) (fun q b1 b2 => un_ne (by omega)), ← Nat.add_assoc, Nat.pow_succ]
              congr 1
              have hyc : y = y / 10 * 10 + (c + 1) := by omega
              generalize 10 ^ (m - (p + 1)) = W
              have e5 : y / 10 * (W * 10) = y / 10 * 10 * W := by rw [Nat.mul_assoc, Nat.mul_comm W 10]
              rw [e5, ← Nat.add_mul, ← hyc]
            · by_cases e : q = p
              · rw [e, un_at]; have := hO r hOr; omega
              · rw [un_ne e]; exact (hr r hOr).2 q (by omega) b2
          · simp (disch := omega) only [jn_le, jn_lt, jn_eq, jn_in, jn_add, jn_sub, jn_mul, jn_neg, li_0, li_1, li_2, li_3, li_4, li_5, li_6, li_7, li_8, li_9, li_10, li_11, li_12, li_13, li_14, li_15, li_16, li_17, li_18, li_20, li_24, li_29, li_30, li_31, li_32, li_37, li_39, li_40, li_42, li_43, li_45, li_46, li_47, li_48, li_53, li_57, li_59, li_60, li_61, li_62, li_63, li_80, li_81, li_91, li_93, li_97, li_100, li_122, li_200, li_255, li_256, li_257, li_258, li_259, li_260, li_300, li_314, li_400, li_580, li_999, li_5040, li_9999, li_65536, li_99999, li_7654321] at w w2
            have := hO r hOr; omega
    refine key N 0 m n (fun _ => 0) _ _ _ rfl (by omega) hxa (Nat.le_refl n) ?_ (fun q b1 b2 => by omega) ?_ (fun r hO => ⟨?_, fun q b1 b2 => by omega⟩) (by omega)
    · have : bs (fun d => decide (∃ q, q < m ∧ m ≤ q ∧ 0 + 1 = d)) 8 = 0 := by
        refine (bs_is (fun d => ?_)).symm
        have : ¬ ∃ q, q < m ∧ m ≤ q ∧ 0 + 1 = d := by rintro ⟨q, b1, b2, b3⟩; omega
        rw [Nat.zero_testBit, decide_eq_false this, Bool.and_false]
      rw [this]; rfl
    · rw [Nat.sub_self]; show n = n * 1 + 0; omega
    · have := hcon r hO; omega
  · have no : ∀ r, ¬ Ord m x r := by
      intro r hO
      have := hcon r hO
      omega
    obtain ⟨k, rfl⟩ : ∃ k, N = k + 1 := ⟨N - 1, by omega⟩
    unfold wp_X11_isOrder_N_22 wp_X11_isOrder_N_109 wp_X11_isOrder_N_110 wp_X11_isOrder_N_69
    refine ⟨fun z => ⟨fun w => ?_, fun w => ⟨Or.inl rfl, h0 no⟩⟩, fun z => ⟨by decide, fun x2 q2 => ⟨by decide, fun x3 q3 => ?_⟩⟩⟩
    · rw [hxa, li_0, jn_eq (by omega) (by omega)] at w; omega
    · have hd := jn_div (a := a) (k := 10) har (by omega)
      rw [hxa, show (10 : Int32) = jn ((10 : Nat) : Int) from rfl, hd, jn_mul, jn_sub] at q2
      have h5 : a.tdiv ((10 : Nat) : Int) = -((-a) / 10) := by
        rw [show a = -(-a) by omega, Int.neg_tdiv, Int.tdiv_eq_ediv_of_nonneg (by omega)]
        omega
      refine ⟨fun w => h0 no, fun w => absurd ?_ w⟩
      rw [q2, h5, li_1, jn_lt (by omega) (by omega)]
      omega
end CIO
