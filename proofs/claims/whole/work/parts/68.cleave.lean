/-! class Reach: all leaps from an order -/
section CLV
variable {N m sp S : Nat} {cl : Nat → Nat → Bool}
theorem p8_sh {r : Nat → Nat} {q : Nat} (hm : m ≤ 7) (h : ∀ i, i < m → r i < 8) (hq : q < m) : (jn (p8 m r : Int) >>> (((3 : Int32) * jn (q : Int)) &&& 31)) &&& (7 : Int32) = jn (r q : Int) := by
  have h1 := p8_lt h
  have h2 := pow8 hm
  rw [show (3 : Int32) * jn (q : Int) = jn ((3 * q : Nat) : Int) from by rw [li_3, jn_mul]; rfl, jn_shr (by omega) (by omega), show (7 : Int32) = jn ((7 : Nat) : Int) from rfl, jn_and, show (7 : Nat) = 2 ^ 3 - 1 from rfl, Nat.and_two_pow_sub_one_eq_mod, Nat.pow_mul, show ((2 : Nat) ^ 3) = 8 from rfl, p8_at h hq]
theorem wl_leave {i F : Nat} {Q : Nat → Nat → Nat} {pa la dp : Nat → Nat} {K : Int32 → (Nat → Int32) → (Nat → Int32) → (Nat → Int32) → (Nat → Int32) → (Nat → Int32) → (Nat → Int32) → (Nat → Int32) → Prop} {p0 fo : Int32} {el eo ep es wh rw' fr de : Nat → Int32} (hN : 10 ≤ N) (hm : m ≤ 7) (hsp : sp ≤ 9999) (hel : ∀ c, c < m → el c = jn (lb m cl c : Int)) (hi : i < F) (h : cI m sp S cl i 0 F Q pa la dp fo wh rw' fr de) (e0 : p0 = jn i)
    (hK : ∀ F' Q' pa' la' dp' fo' wh' rw2 fr' de' eo ep es, cI m sp S cl (i + 1) 0 F' Q' pa' la' dp' fo' wh' rw2 fr' de' → i < F' → Q' 0 = Q 0 → K fo' wh' rw2 fr' de' eo ep es) : wp_X5_leaveFrom N (jn m) (jn sp) el K p0 fo wh rw' fr de eo ep es := by
  have hF5 := h.1.2.1
  have hr := (h.1.2.2.1 i hi).1
  have hrow := (h.1.2.2.1 i hi).2.1
  generalize hQr : Q i = r at *
  have key2 : ∀ (n c F : Nat) (Q' : Nat → Nat → Nat) (pa la dp : Nat → Nat) (v3 fo : Int32) (wh rw' fr de eo ep es : Nat → Int32), v3 = jn c → c ≤ m → ar m eo r → ar m es (ls m r) → (∀ d, d < m → ep d = jn (iv r d m : Int)) → i < F → Q' i = r → Q' 0 = Q 0 → cI m sp S cl i (8 * c) F Q' pa la dp fo wh rw' fr de → m < n + c → wp_X5_leaveFrom_51 N (jn m) (jn sp) el K n (jn i) (jn (rk m r : Int)) v3 fo wh rw' fr de eo ep es := by
    intro n
    induction n with
    | zero => intro c F Q' pa la dp v3 fo wh rw' fr de eo ep es _ h1 _ _ _ _ _ _ _ h2; omega
    | succ n ih =>
      intro c F Q' pa la dp v3 fo wh rw' fr de eo ep es e3 hc ho hs hp hiF hQi hQ0 hcI hn
      unfold wp_X5_leaveFrom_51
      subst e3
      refine ⟨fun z => ?_, fun z => ?_⟩
      · simp (disch := omega) only [jn_le, jn_lt, jn_eq, jn_in, jn_add, jn_sub, jn_mul, jn_neg, li_0, li_1, li_2, li_3, li_4, li_5, li_6, li_7, li_8, li_9, li_10, li_11, li_12, li_13, li_14, li_15, li_16, li_17, li_18, li_20, li_24, li_29, li_30, li_31, li_32, li_37, li_39, li_40, li_42, li_43, li_45, li_46, li_47, li_48, li_53, li_57, li_59, li_60, li_61, li_62, li_63, li_80, li_81, li_91, li_93, li_97, li_100, li_122, li_200, li_255, li_256, li_257, li_258, li_259, li_260, li_300, li_314, li_400, li_580, li_999, li_5040, li_9999, li_65536, li_99999, li_7654321] at z
        have e : c = m := by omega
        subst e
        refine hK F Q' pa la dp fo wh rw' fr de eo ep es ⟨hcI.1, BI_next hcI.2 (fun l' b a hE => ?_)⟩ hiF hQ0
        have hE' : Lg c sp cl (rk c (Q' i)) l' b := hE
        rw [hQi, Lg_iff hm hr] at hE'
        have := hE'.1.1
        omega
      · simp (disch := omega) only [jn_le, jn_lt, jn_eq, jn_in, jn_add, jn_sub, jn_mul, jn_neg, li_0, li_1, li_2, li_3, li_4, li_5, li_6, li_7, li_8, li_9, li_10, li_11, li_12, li_13, li_14, li_15, li_16, li_17, li_18, li_20, li_24, li_29, li_30, li_31, li_32, li_37, li_39, li_40, li_42, li_43, li_45, li_46, li_47, li_48, li_53, li_57, li_59, li_60, li_61, li_62, li_63, li_80, li_81, li_91, li_93, li_97, li_100, li_122, li_200, li_255, li_256, li_257, li_258, li_259, li_260, li_300, li_314, li_400, li_580, li_999, li_5040, li_9999, li_65536, li_99999, li_7654321] at z
        refine ⟨by simp (disch := omega) only [jn_le, jn_lt, jn_eq, jn_in, jn_add, jn_sub, jn_mul, jn_neg, li_0, li_1, li_2, li_3, li_4, li_5, li_6, li_7, li_8, li_9, li_10, li_11, li_12, li_13, li_14, li_15, li_16, li_17, li_18, li_20, li_24, li_29, li_30, li_31, li_32, li_37, li_39, li_40, li_42, li_43, li_45, li_46, li_47, li_48, li_53, li_57, li_59, li_60, li_61, li_62, li_63, li_80, li_81, li_91, li_93, li_97, li_100, li_122, li_200, li_255, li_256, li_257, li_258, li_259, li_260, li_300, li_314, li_400, li_580, li_999, li_5040, li_9999, li_65536, li_99999, li_7654321] <;> omega, ?_⟩
        rw [jn_cln (by omega), hp c (by omega)]
        refine wl_rLeap (c := c) hN hm hsp (by omega) hr hel ho hs hiF hQi hcI rfl rfl rfl (fun F' Q2 pa' la' dp' fo' wh' rw2 fr' de' g1 g2 g3 g4 => ?_)
        exact ih (c + 1) F' Q2 pa' la' dp' _ _ _ _ _ _ _ _ _ (by (first | rfl | (simp (disch := omega) only [jn_add, jn_sub, jn_mul, jn_neg, li_0, li_1, li_2, li_3, li_4, li_5, li_6, li_7, li_8, li_9, li_10, li_11, li_12, li_13, li_14, li_15, li_16, li_17, li_18, li_20, li_24, li_29, li_30, li_31, li_32, li_37, li_39, li_40, li_42, li_43, li_45, li_46, li_47, li_48, li_53, li_57, li_59, li_60, li_61, li_62, li_63, li_80, li_81, li_91, li_93, li_97, li_100, li_122, li_200, li_255, li_256, li_257, li_258, li_259, li_260, li_300, li_314, li_400, li_580, li_999, li_5040, li_9999, li_65536, li_99999, li_7654321] <;> first | rfl | exact congrArg jn (by omega)) | exact congrArg jn (by omega))) (by omega) ho hs hp g2 g3 (g4.trans hQ0) g1 (by omega)
  have key : ∀ (n p : Nat) (v2 : Int32) (eo ep : Nat → Int32), v2 = jn p → p ≤ m → ar p eo r → (∀ q, q < p → ep (r q) = jn q) → m < n + p → wp_X5_leaveFrom_2 N (jn m) (jn sp) el K n (jn i) v2 fo wh rw' fr de eo ep es := by
    intro n
    induction n with
    | zero => intro p v2 eo ep _ h1 _ _ h2; omega
    | succ n ih =>
      intro p v2 eo ep e2 hp ho hpl hn
      unfold wp_X5_leaveFrom_2
      subst e2
      refine ⟨fun z => ?_, fun z => ?_⟩
      · simp (disch := omega) only [jn_le, jn_lt, jn_eq, jn_in, jn_add, jn_sub, jn_mul, jn_neg, li_0, li_1, li_2, li_3, li_4, li_5, li_6, li_7, li_8, li_9, li_10, li_11, li_12, li_13, li_14, li_15, li_16, li_17, li_18, li_20, li_24, li_29, li_30, li_31, li_32, li_37, li_39, li_40, li_42, li_43, li_45, li_46, li_47, li_48, li_53, li_57, li_59, li_60, li_61, li_62, li_63, li_80, li_81, li_91, li_93, li_97, li_100, li_122, li_200, li_255, li_256, li_257, li_258, li_259, li_260, li_300, li_314, li_400, li_580, li_999, li_5040, li_9999, li_65536, li_99999, li_7654321] at z
        have e : p = m := by omega
        subst e
        refine wl_rank hN hm hr ho (fun le' hle => ?_)
        refine key2 N 0 F Q pa la dp _ _ _ _ _ _ _ _ _ rfl (by omega) ho hle (fun d hd => ?_) hi hQr rfl h (by omega)
        have := hpl (iv r d p) (iv_lt hr hd)
        rw [iv_at hr hd] at this
        exact this
      · simp (disch := omega) only [jn_le, jn_lt, jn_eq, jn_in, jn_add, jn_sub, jn_mul, jn_neg, li_0, li_1, li_2, li_3, li_4, li_5, li_6, li_7, li_8, li_9, li_10, li_11, li_12, li_13, li_14, li_15, li_16, li_17, li_18, li_20, li_24, li_29, li_30, li_31, li_32, li_37, li_39, li_40, li_42, li_43, li_45, li_46, li_47, li_48, li_53, li_57, li_59, li_60, li_61, li_62, li_63, li_80, li_81, li_91, li_93, li_97, li_100, li_122, li_200, li_255, li_256, li_257, li_258, li_259, li_260, li_300, li_314, li_400, li_580, li_999, li_5040, li_9999, li_65536, li_99999, li_7654321] at z
        have hrp := hr.1 p (by omega)
        refine ⟨by simp (disch := omega) only [jn_le, jn_lt, jn_eq, jn_in, jn_add, jn_sub, jn_mul, jn_neg, li_0, li_1, li_2, li_3, li_4, li_5, li_6, li_7, li_8, li_9, li_10, li_11, li_12, li_13, li_14, li_15, li_16, li_17, li_18, li_20, li_24, li_29, li_30, li_31, li_32, li_37, li_39, li_40, li_42, li_43, li_45, li_46, li_47, li_48, li_53, li_57, li_59, li_60, li_61, li_62, li_63, li_80, li_81, li_91, li_93, li_97, li_100, li_122, li_200, li_255, li_256, li_257, li_258, li_259, li_260, li_300, li_314, li_400, li_580, li_999, li_5040, li_9999, li_65536, li_99999, li_7654321] <;> omega, fun x3 q3 => ?_⟩
        rw [jn_cln (by omega), hrow, p8_sh hm (Pm8 hm hr) (by omega)] at q3
        subst q3
        refine ⟨by simp (disch := omega) only [jn_le, jn_lt, jn_eq, jn_in, jn_add, jn_sub, jn_mul, jn_neg, li_0, li_1, li_2, li_3, li_4, li_5, li_6, li_7, li_8, li_9, li_10, li_11, li_12, li_13, li_14, li_15, li_16, li_17, li_18, li_20, li_24, li_29, li_30, li_31, li_32, li_37, li_39, li_40, li_42, li_43, li_45, li_46, li_47, li_48, li_53, li_57, li_59, li_60, li_61, li_62, li_63, li_80, li_81, li_91, li_93, li_97, li_100, li_122, li_200, li_255, li_256, li_257, li_258, li_259, li_260, li_300, li_314, li_400, li_580, li_999, li_5040, li_9999, li_65536, li_99999, li_7654321] <;> omega, fun a4 q4 => ⟨by simp (disch := omega) only [jn_le, jn_lt, jn_eq, jn_in, jn_add, jn_sub, jn_mul, jn_neg, li_0, li_1, li_2, li_3, li_4, li_5, li_6, li_7, li_8, li_9, li_10, li_11, li_12, li_13, li_14, li_15, li_16, li_17, li_18, li_20, li_24, li_29, li_30, li_31, li_32, li_37, li_39, li_40, li_42, li_43, li_45, li_46, li_47, li_48, li_53, li_57, li_59, li_60, li_61, li_62, li_63, li_80, li_81, li_91, li_93, li_97, li_100, li_122, li_200, li_255, li_256, li_257, li_258, li_259, li_260, li_300, li_314, li_400, li_580, li_999, li_5040, li_9999, li_65536, li_99999, li_7654321] <;> omega, fun a5 q5 => ?_⟩⟩
        rw [jn_cln (by omega)] at q4 q5
        refine ih (p + 1) _ a4 a5 (by (first | rfl | (simp (disch := omega) only [jn_add, jn_sub, jn_mul, jn_neg, li_0, li_1, li_2, li_3, li_4, li_5, li_6, li_7, li_8, li_9, li_10, li_11, li_12, li_13, li_14, li_15, li_16, li_17, li_18, li_20, li_24, li_29, li_30, li_31, li_32, li_37, li_39, li_40, li_42, li_43, li_45, li_46, li_47, li_48, li_53, li_57, li_59, li_60, li_61, li_62, li_63, li_80, li_81, li_91, li_93, li_97, li_100, li_122, li_200, li_255, li_256, li_257, li_258, li_259, li_260, li_300, li_314, li_400, li_580, li_999, li_5040, li_9999, li_65536, li_99999, li_7654321] <;> first | rfl | exact congrArg jn (by omega)) | exact congrArg jn (by omega))) (by omega) (fun q hq => ?_) (fun q hq => ?_) (by omega)
        · by_cases e : q = p
          · rw [q4, e, upd_at]
          · rw [q4, upd_ne e]; exact ho q (by omega)
        · by_cases e : q = p
          · rw [q5, e, upd_at]
          · rw [q5, upd_ne (Pm_ne hr (by omega) (by omega) e)]; exact hpl q (by omega)
  unfold wp_X5_leaveFrom
  rw [e0]
  exact key N 0 _ eo ep rfl (by omega) (fun q hq => by omega) (fun q hq => by omega) (by omega)
end CLV
