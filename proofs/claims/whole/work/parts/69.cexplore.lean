/-! class Reach: all that can be reached -/
def cX (m sp : Nat) (cl : Nat → Nat → Bool) (r0 : Nat → Nat) (F : Nat) (Q : Nat → Nat → Nat) (pa la dp : Nat → Nat) (em es : Int32) (el : Nat → Int32) (fo : Int32) (wh rw' fr de : Nat → Int32) : Prop := em = jn m ∧ es = jn sp ∧ (∀ c, c < m → el c = jn (lb m cl c : Int)) ∧ cB m F Q pa la dp fo wh rw' fr de ∧ RB (Lg m sp cl) (rk m r0) F (fun j => rk m (Q j)) pa la dp
/-- a Reach: new, or what it holds was explored -/
def cX0 (em es : Int32) (el : Nat → Int32) (fo : Int32) (wh rw' fr de : Nat → Int32) : Prop := em = -1 ∨ ∃ m sp cl r0 F Q pa la dp, m ≤ 7 ∧ sp ≤ 9999 ∧ Pm m r0 ∧ cX m sp cl r0 F Q pa la dp em es el fo wh rw' fr de
/-- who can leap whom -/
def clf (LP BK : Nat → Nat) (c d : Nat) : Bool := decide (BK d ≤ LP c)
section CEX
variable {N m sp : Nat} {LP BK O : Nat → Nat}
theorem wl_fill {L : Nat} {Q : (Nat → Int32) → Prop} {x : Int32} {a : Nat → Int32} (hN : L < N) (hL : L < 10000) (h : ∀ a', (∀ k, k < L → a' k = x) → Q a') : wp_J7_fill_53178 N L Q x a := by
  unfold wp_J7_fill_53178
  intro x1 e1
  have e1' : x1 = jn (L : Int) := by rw [e1]; exact (Int32.ofInt_eq_ofNat).symm
  subst e1'
  have key : ∀ (n i : Nat) (v2 : Int32) (a : Nat → Int32), v2 = jn i → i ≤ L → (∀ k, k < i → a k = x) → L < n + i → wp_J7_fill_53178_5 N L Q n x v2 (jn (L : Int)) a := by
    intro n
    induction n with
    | zero => intro i v2 a _ h1 _ h2; omega
    | succ n ih =>
      intro i v2 a e2 hi ha hn
      unfold wp_J7_fill_53178_5
      subst e2
      refine ⟨fun z => ?_, fun z => ?_⟩
      · simp (disch := omega) only [jn_le, jn_lt, jn_eq, jn_in, jn_add, jn_sub, jn_mul, jn_neg, li_0, li_1, li_2, li_3, li_4, li_5, li_6, li_7, li_8, li_9, li_10, li_11, li_12, li_13, li_14, li_15, li_16, li_17, li_18, li_20, li_24, li_29, li_30, li_31, li_32, li_37, li_39, li_40, li_42, li_43, li_45, li_46, li_47, li_48, li_53, li_57, li_59, li_60, li_61, li_62, li_63, li_80, li_81, li_91, li_93, li_97, li_100, li_122, li_200, li_255, li_256, li_257, li_258, li_259, li_260, li_300, li_314, li_400, li_580, li_999, li_5040, li_9999, li_65536, li_99999, li_7654321] at z
        exact h a (fun k hk => ha k (by omega))
      · simp (disch := omega) only [jn_le, jn_lt, jn_eq, jn_in, jn_add, jn_sub, jn_mul, jn_neg, li_0, li_1, li_2, li_3, li_4, li_5, li_6, li_7, li_8, li_9, li_10, li_11, li_12, li_13, li_14, li_15, li_16, li_17, li_18, li_20, li_24, li_29, li_30, li_31, li_32, li_37, li_39, li_40, li_42, li_43, li_45, li_46, li_47, li_48, li_53, li_57, li_59, li_60, li_61, li_62, li_63, li_80, li_81, li_91, li_93, li_97, li_100, li_122, li_200, li_255, li_256, li_257, li_258, li_259, li_260, li_300, li_314, li_400, li_580, li_999, li_5040, li_9999, li_65536, li_99999, li_7654321] at z
        refine ⟨by simp (disch := omega) only [jn_le, jn_lt, jn_eq, jn_in, jn_add, jn_sub, jn_mul, jn_neg, li_0, li_1, li_2, li_3, li_4, li_5, li_6, li_7, li_8, li_9, li_10, li_11, li_12, li_13, li_14, li_15, li_16, li_17, li_18, li_20, li_24, li_29, li_30, li_31, li_32, li_37, li_39, li_40, li_42, li_43, li_45, li_46, li_47, li_48, li_53, li_57, li_59, li_60, li_61, li_62, li_63, li_80, li_81, li_91, li_93, li_97, li_100, li_122, li_200, li_255, li_256, li_257, li_258, li_259, li_260, li_300, li_314, li_400, li_580, li_999, li_5040, li_9999, li_65536, li_99999, li_7654321] <;> omega, fun a2 e2 => ?_⟩
        rw [jn_cln (by omega)] at e2
        refine ih (i + 1) _ a2 (by (first | rfl | (simp (disch := omega) only [jn_add, jn_sub, jn_mul, jn_neg, li_0, li_1, li_2, li_3, li_4, li_5, li_6, li_7, li_8, li_9, li_10, li_11, li_12, li_13, li_14, li_15, li_16, li_17, li_18, li_20, li_24, li_29, li_30, li_31, li_32, li_37, li_39, li_40, li_42, li_43, li_45, li_46, li_47, li_48, li_53, li_57, li_59, li_60, li_61, li_62, li_63, li_80, li_81, li_91, li_93, li_97, li_100, li_122, li_200, li_255, li_256, li_257, li_258, li_259, li_260, li_300, li_314, li_400, li_580, li_999, li_5040, li_9999, li_65536, li_99999, li_7654321] <;> first | rfl | exact congrArg jn (by omega)) | exact congrArg jn (by omega))) (by omega) (fun k hk => ?_) (by omega)
        by_cases e : k = i
        · rw [e2, e, upd_at]
        · rw [e2, upd_ne e]; exact ha k (by omega)
  exact key N 0 _ a rfl (by omega) (fun k hk => by omega) (by omega)
theorem wl_isAs {m' sp' F : Nat} {cl : Nat → Nat → Bool} {r0 : Nat → Nat} {Q : Nat → Nat → Nat} {pa la dp : Nat → Nat} {em es fo : Int32} {el wh rw' fr de lp od bk : Nat → Int32} {K : Int32 → Prop} (hN : 10 ≤ N) (hm : m ≤ 7) (hsp : sp ≤ 9999) (hL : ar m lp LP) (hO : ar m od O) (hB : ar m bk BK) (hLb : ∀ c, c < m → LP c ≤ 9999) (hBb : ∀ d, d < m → BK d ≤ 9999) (hP : Pm m O) (hm' : m' ≤ 7) (hsp' : sp' ≤ 9999) (hx : cX m' sp' cl r0 F Q pa la dp em es el fo wh rw' fr de) (h0 : K 0)
    (h1 : m' = m → sp' = sp → (∀ q, q < m → Q 0 q = O q) → (∀ c, c < m → lb m cl c = lb m (clf LP BK) c) → K 1) : wp_X5_isAsExplored N em es el rw' (jn sp) (jn m) lp od bk K := by
  obtain ⟨x1, x2, x3, x4, x5⟩ := hx
  unfold wp_X5_isAsExplored wp_X5_isAsExplored_22
  subst x1 x2
  refine ⟨fun z => ⟨fun y => ?_, fun _ => h0⟩, fun _ => h0⟩
  rw [jn_eq (by omega) (by omega)] at z y
  have em : m' = m := by omega
  have es : sp' = sp := by omega
  subst em es
  have hF := x5.1
  obtain ⟨q1, q2, -⟩ := x4.2.2.1 0 hF
  have key : ∀ (n p : Nat) (v3 : Int32), v3 = jn p → p ≤ m' → (∀ q, q < p → Q 0 q = O q ∧ lb m' cl (O q) = lb m' (clf LP BK) (O q)) → m' < n + p → wp_X5_isAsExplored_26 N (jn m') (jn sp') el rw' (jn sp') (jn m') lp od bk K n v3 := by
    intro n
    induction n with
    | zero => intro p v3 _ h1 _ h2; omega
    | succ n ih =>
      intro p v3 e3 hp ha hn
      unfold wp_X5_isAsExplored_26 wp_X5_isAsExplored_77
      subst e3
      refine ⟨fun w => ?_, fun w => ?_⟩
      · simp (disch := omega) only [jn_le, jn_lt, jn_eq, jn_in, jn_add, jn_sub, jn_mul, jn_neg, li_0, li_1, li_2, li_3, li_4, li_5, li_6, li_7, li_8, li_9, li_10, li_11, li_12, li_13, li_14, li_15, li_16, li_17, li_18, li_20, li_24, li_29, li_30, li_31, li_32, li_37, li_39, li_40, li_42, li_43, li_45, li_46, li_47, li_48, li_53, li_57, li_59, li_60, li_61, li_62, li_63, li_80, li_81, li_91, li_93, li_97, li_100, li_122, li_200, li_255, li_256, li_257, li_258, li_259, li_260, li_300, li_314, li_400, li_580, li_999, li_5040, li_9999, li_65536, li_99999, li_7654321] at w
        have e : p = m' := by omega
        subst e
        refine h1 rfl rfl (fun q hq => (ha q hq).1) (fun c hc => ?_)
        have := (ha (iv O c p) (iv_lt hP hc)).2
        rw [iv_at hP hc] at this; exact this
      · simp (disch := omega) only [jn_le, jn_lt, jn_eq, jn_in, jn_add, jn_sub, jn_mul, jn_neg, li_0, li_1, li_2, li_3, li_4, li_5, li_6, li_7, li_8, li_9, li_10, li_11, li_12, li_13, li_14, li_15, li_16, li_17, li_18, li_20, li_24, li_29, li_30, li_31, li_32, li_37, li_39, li_40, li_42, li_43, li_45, li_46, li_47, li_48, li_53, li_57, li_59, li_60, li_61, li_62, li_63, li_80, li_81, li_91, li_93, li_97, li_100, li_122, li_200, li_255, li_256, li_257, li_258, li_259, li_260, li_300, li_314, li_400, li_580, li_999, li_5040, li_9999, li_65536, li_99999, li_7654321] at w
        have hOp := hP.1 p (by omega)
        refine ⟨by simp (disch := omega) only [jn_le, jn_lt, jn_eq, jn_in, jn_add, jn_sub, jn_mul, jn_neg, li_0, li_1, li_2, li_3, li_4, li_5, li_6, li_7, li_8, li_9, li_10, li_11, li_12, li_13, li_14, li_15, li_16, li_17, li_18, li_20, li_24, li_29, li_30, li_31, li_32, li_37, li_39, li_40, li_42, li_43, li_45, li_46, li_47, li_48, li_53, li_57, li_59, li_60, li_61, li_62, li_63, li_80, li_81, li_91, li_93, li_97, li_100, li_122, li_200, li_255, li_256, li_257, li_258, li_259, li_260, li_300, li_314, li_400, li_580, li_999, li_5040, li_9999, li_65536, li_99999, li_7654321] <;> omega, fun x1 e1 => ⟨by unfold vp_in; decide, ?_⟩⟩
        rw [jn_cln (by omega), hO p (by omega)] at e1
        subst e1
        rw [show (0 : Int32).toNatClampNeg = 0 from rfl, q2, p8_sh hm (Pm8 hm q1) (by omega), jn_eq (by have := q1.1 p (by omega); omega) (by omega)]
        refine ⟨fun u => ⟨by simp (disch := omega) only [jn_le, jn_lt, jn_eq, jn_in, jn_add, jn_sub, jn_mul, jn_neg, li_0, li_1, li_2, li_3, li_4, li_5, li_6, li_7, li_8, li_9, li_10, li_11, li_12, li_13, li_14, li_15, li_16, li_17, li_18, li_20, li_24, li_29, li_30, li_31, li_32, li_37, li_39, li_40, li_42, li_43, li_45, li_46, li_47, li_48, li_53, li_57, li_59, li_60, li_61, li_62, li_63, li_80, li_81, li_91, li_93, li_97, li_100, li_122, li_200, li_255, li_256, li_257, li_258, li_259, li_260, li_300, li_314, li_400, li_580, li_999, li_5040, li_9999, li_65536, li_99999, li_7654321] <;> omega, ?_⟩, fun _ => h0⟩
        refine wl_leapableBy (k := 0) (LP := LP) (BK := BK) hN hm hOp rfl hL hB (hLb _ hOp) hBb ?_
        have b1 := bs_lt7 (f := cl (O p)) hm
        have b2 := bs_lt7 (f := clf LP BK (O p)) hm
        rw [jn_cln (by omega), x3 _ hOp]
        refine ⟨fun t => ?_, fun _ => h0⟩
        refine ih (p + 1) _ (by (first | rfl | (simp (disch := omega) only [jn_add, jn_sub, jn_mul, jn_neg, li_0, li_1, li_2, li_3, li_4, li_5, li_6, li_7, li_8, li_9, li_10, li_11, li_12, li_13, li_14, li_15, li_16, li_17, li_18, li_20, li_24, li_29, li_30, li_31, li_32, li_37, li_39, li_40, li_42, li_43, li_45, li_46, li_47, li_48, li_53, li_57, li_59, li_60, li_61, li_62, li_63, li_80, li_81, li_91, li_93, li_97, li_100, li_122, li_200, li_255, li_256, li_257, li_258, li_259, li_260, li_300, li_314, li_400, li_580, li_999, li_5040, li_9999, li_65536, li_99999, li_7654321] <;> first | rfl | exact congrArg jn (by omega)) | exact congrArg jn (by omega))) (by omega) (fun q hq => ?_) (by omega)
        by_cases e : q = p
        · subst e
          refine ⟨by omega, ?_⟩
          have t' : jn (lb m' cl (O q) : Int) = jn (lb m' (clf LP BK) (O q) : Int) := t
          unfold lb at t' ⊢
          rw [jn_eq (by omega) (by omega)] at t'
          omega
        · exact ha q (by omega)
  exact key N 0 _ rfl (by omega) (fun q hq => by omega) (by omega)
theorem RB_congr {E E' : Nat → Nat → Nat → Prop} {S F : Nat} {ro pa la dp : Nat → Nat} (h : ∀ a l b, E a l b ↔ E' a l b) (hR : RB E S F ro pa la dp) : RB E' S F ro pa la dp := by
  have : E = E' := by funext a l b; exact propext (h a l b)
  rw [← this]; exact hR
theorem wl_explore {em es fo : Int32} {el wh rw' fr de eo ep ee lp od bk : Nat → Int32} {K : Int32 → Int32 → (Nat → Int32) → Int32 → (Nat → Int32) → (Nat → Int32) → (Nat → Int32) → (Nat → Int32) → (Nat → Int32) → (Nat → Int32) → (Nat → Int32) → Prop} (hN : 6000 ≤ N) (hm : m ≤ 7) (hsp : sp ≤ 9999) (hL : ar m lp LP) (hO : ar m od O) (hB : ar m bk BK) (hLb : ∀ c, c < m → LP c ≤ 9999) (hBb : ∀ d, d < m → BK d ≤ 9999) (hP : Pm m O) (hx : cX0 em es el fo wh rw' fr de)
    (hK : ∀ F Q pa la dp em es el fo wh rw' fr de eo ep ee, cX m sp (clf LP BK) O F Q pa la dp em es el fo wh rw' fr de → K em es el fo wh rw' fr de eo ep ee) : wp_X5_explore N (jn sp) (jn m) lp od bk K em es el fo wh rw' fr de eo ep ee := by
  have key3 : ∀ (n i F : Nat) (Q : Nat → Nat → Nat) (pa la dp : Nat → Nat) (v4 fo : Int32) (el wh rw' fr de eo ep ee : Nat → Int32), v4 = jn i → (∀ c, c < m → el c = jn (lb m (clf LP BK) c : Int)) → cI m sp (rk m O) (clf LP BK) i 0 F Q pa la dp fo wh rw' fr de → i ≤ F → 5050 < n + i → wp_X5_explore_115 N (jn sp) (jn m) lp od bk K n v4 (jn m) (jn sp) el fo wh rw' fr de eo ep ee := by
    intro n
    induction n with
    | zero => intro i F Q pa la dp v4 fo el wh rw' fr de eo ep ee _ _ h1 _ h2; have := h1.1.2.1; omega
    | succ n ih =>
      intro i F Q pa la dp v4 fo el wh rw' fr de eo ep ee e4 hel hcI hiF hn
      have hF5 := hcI.1.2.1
      have hfo := hcI.1.1
      unfold wp_X5_explore_115 wp_X5_explore_144
      subst e4
      rw [hfo, jn_le (by omega) (by omega)]
      have fin : F ≤ i → K (jn m) (jn sp) el (jn F) wh rw' fr de eo ep ee := by
        intro z
        have hcI' := hcI
        rw [hfo] at hcI'
        exact hK F Q pa la dp _ _ _ _ _ _ _ _ _ _ _ ⟨rfl, rfl, hel, hcI'.1, BI_end hcI'.2 z⟩
      refine ⟨fun z => fin (by omega), fun z => ⟨fun y => ?_, fun y => ?_⟩⟩
      · simp (disch := omega) only [jn_le, jn_lt, jn_eq, jn_in, jn_add, jn_sub, jn_mul, jn_neg, li_0, li_1, li_2, li_3, li_4, li_5, li_6, li_7, li_8, li_9, li_10, li_11, li_12, li_13, li_14, li_15, li_16, li_17, li_18, li_20, li_24, li_29, li_30, li_31, li_32, li_37, li_39, li_40, li_42, li_43, li_45, li_46, li_47, li_48, li_53, li_57, li_59, li_60, li_61, li_62, li_63, li_80, li_81, li_91, li_93, li_97, li_100, li_122, li_200, li_255, li_256, li_257, li_258, li_259, li_260, li_300, li_314, li_400, li_580, li_999, li_5040, li_9999, li_65536, li_99999, li_7654321] at y; omega
      · rw [hfo] at hcI
        refine wl_leave (i := i) (by omega) hm hsp hel (by omega) hcI rfl (fun F' Q' pa' la' dp' fo' wh' rw2 fr' de' eo ep es g1 g2 g3 => ?_)
        exact ih (i + 1) F' Q' pa' la' dp' _ _ _ _ _ _ _ _ _ _ (by (first | rfl | (simp (disch := omega) only [jn_add, jn_sub, jn_mul, jn_neg, li_0, li_1, li_2, li_3, li_4, li_5, li_6, li_7, li_8, li_9, li_10, li_11, li_12, li_13, li_14, li_15, li_16, li_17, li_18, li_20, li_24, li_29, li_30, li_31, li_32, li_37, li_39, li_40, li_42, li_43, li_45, li_46, li_47, li_48, li_53, li_57, li_59, li_60, li_61, li_62, li_63, li_80, li_81, li_91, li_93, li_97, li_100, li_122, li_200, li_255, li_256, li_257, li_258, li_259, li_260, li_300, li_314, li_400, li_580, li_999, li_5040, li_9999, li_65536, li_99999, li_7654321] <;> first | rfl | exact congrArg jn (by omega)) | exact congrArg jn (by omega))) hel g1 (by omega) (by omega)
  have key2 : ∀ (n p : Nat) (v3 v4 : Int32) (el eo wh rw' fr de ep ee : Nat → Int32), v4 = jn p → p ≤ m → v3 = jn (p8 p O : Int) → ar p eo O → (∀ q, q < p → el (O q) = jn (lb m (clf LP BK) (O q) : Int)) → (∀ k, k < 5040 → wh k = 0) → m < n + p → wp_X5_explore_44 N (jn sp) (jn m) lp od bk K n v3 v4 (jn m) (jn sp) el 0 wh rw' fr de eo ep ee := by
    intro n
    induction n with
    | zero => intro p v3 v4 el eo wh rw' fr de ep ee _ h1 _ _ _ _ h2; omega
    | succ n ih =>
      intro p v3 v4 el eo wh rw' fr de ep ee e4 hp e3 ho hel hwh hn
      unfold wp_X5_explore_44
      subst e4
      refine ⟨fun z => ?_, fun z => ?_⟩
      · simp (disch := omega) only [jn_le, jn_lt, jn_eq, jn_in, jn_add, jn_sub, jn_mul, jn_neg, li_0, li_1, li_2, li_3, li_4, li_5, li_6, li_7, li_8, li_9, li_10, li_11, li_12, li_13, li_14, li_15, li_16, li_17, li_18, li_20, li_24, li_29, li_30, li_31, li_32, li_37, li_39, li_40, li_42, li_43, li_45, li_46, li_47, li_48, li_53, li_57, li_59, li_60, li_61, li_62, li_63, li_80, li_81, li_91, li_93, li_97, li_100, li_122, li_200, li_255, li_256, li_257, li_258, li_259, li_260, li_300, li_314, li_400, li_580, li_999, li_5040, li_9999, li_65536, li_99999, li_7654321] at z
        have e : p = m := by omega
        subst e
        refine wl_rank (by omega) hm hP ho (fun le' hle => ?_)
        have hB0 : cB p 0 (fun _ => O) (fun _ => 0) (fun _ => 0) (fun _ => 0) 0 wh rw' fr de := ⟨rfl, by omega, fun j hj => by omega, fun k hk _ => hwh k hk⟩
        refine wl_add (i := 0) (l := 0) hm hB0 (fun i j a b _ => by omega) hP (Or.inr ⟨rfl, rfl⟩) (by omega) rfl e3 rfl rfl (fun hex => ?_) (fun hno fo' wh' rw2 fr' de' hB' => ?_)
        · obtain ⟨j, j1, -⟩ := hex; omega
        · refine key3 N 0 1 _ _ _ _ _ _ _ _ _ _ _ _ _ _ rfl (fun c hc => ?_) ⟨hB', BI_0 ?_ ?_⟩ (by omega) (by omega)
          · have := hel (iv O c p) (iv_lt hP hc)
            rw [iv_at hP hc] at this; exact this
          · show rk p (unQ (fun _ => O) 0 O 0) = rk p O
            unfold unQ; rw [if_pos rfl]
          · rw [un_at, if_pos rfl]
      · simp (disch := omega) only [jn_le, jn_lt, jn_eq, jn_in, jn_add, jn_sub, jn_mul, jn_neg, li_0, li_1, li_2, li_3, li_4, li_5, li_6, li_7, li_8, li_9, li_10, li_11, li_12, li_13, li_14, li_15, li_16, li_17, li_18, li_20, li_24, li_29, li_30, li_31, li_32, li_37, li_39, li_40, li_42, li_43, li_45, li_46, li_47, li_48, li_53, li_57, li_59, li_60, li_61, li_62, li_63, li_80, li_81, li_91, li_93, li_97, li_100, li_122, li_200, li_255, li_256, li_257, li_258, li_259, li_260, li_300, li_314, li_400, li_580, li_999, li_5040, li_9999, li_65536, li_99999, li_7654321] at z
        have hOp := hP.1 p (by omega)
        have h8 := p8_lt (r := O) (m := p) (fun i hi => Pm8 hm hP i (by omega))
        refine ⟨by simp (disch := omega) only [jn_le, jn_lt, jn_eq, jn_in, jn_add, jn_sub, jn_mul, jn_neg, li_0, li_1, li_2, li_3, li_4, li_5, li_6, li_7, li_8, li_9, li_10, li_11, li_12, li_13, li_14, li_15, li_16, li_17, li_18, li_20, li_24, li_29, li_30, li_31, li_32, li_37, li_39, li_40, li_42, li_43, li_45, li_46, li_47, li_48, li_53, li_57, li_59, li_60, li_61, li_62, li_63, li_80, li_81, li_91, li_93, li_97, li_100, li_122, li_200, li_255, li_256, li_257, li_258, li_259, li_260, li_300, li_314, li_400, li_580, li_999, li_5040, li_9999, li_65536, li_99999, li_7654321] <;> omega, fun x10 e10 => ⟨by simp (disch := omega) only [jn_le, jn_lt, jn_eq, jn_in, jn_add, jn_sub, jn_mul, jn_neg, li_0, li_1, li_2, li_3, li_4, li_5, li_6, li_7, li_8, li_9, li_10, li_11, li_12, li_13, li_14, li_15, li_16, li_17, li_18, li_20, li_24, li_29, li_30, li_31, li_32, li_37, li_39, li_40, li_42, li_43, li_45, li_46, li_47, li_48, li_53, li_57, li_59, li_60, li_61, li_62, li_63, li_80, li_81, li_91, li_93, li_97, li_100, li_122, li_200, li_255, li_256, li_257, li_258, li_259, li_260, li_300, li_314, li_400, li_580, li_999, li_5040, li_9999, li_65536, li_99999, li_7654321] <;> omega, fun a11 e11 x12 e12 => ?_⟩⟩
        rw [jn_cln (by omega)] at e10 e11
        rw [hO p (by omega)] at e10
        subst e10
        refine wl_leapableBy (k := 0) (LP := LP) (BK := BK) (by omega) hm hOp rfl hL hB (hLb _ hOp) hBb ⟨by simp (disch := omega) only [jn_le, jn_lt, jn_eq, jn_in, jn_add, jn_sub, jn_mul, jn_neg, li_0, li_1, li_2, li_3, li_4, li_5, li_6, li_7, li_8, li_9, li_10, li_11, li_12, li_13, li_14, li_15, li_16, li_17, li_18, li_20, li_24, li_29, li_30, li_31, li_32, li_37, li_39, li_40, li_42, li_43, li_45, li_46, li_47, li_48, li_53, li_57, li_59, li_60, li_61, li_62, li_63, li_80, li_81, li_91, li_93, li_97, li_100, li_122, li_200, li_255, li_256, li_257, li_258, li_259, li_260, li_300, li_314, li_400, li_580, li_999, li_5040, li_9999, li_65536, li_99999, li_7654321] <;> omega, fun a14 e14 => ?_⟩
        rw [jn_cln (by omega)] at e14
        refine ih (p + 1) _ _ a14 a11 _ _ _ _ _ _ (by (first | rfl | (simp (disch := omega) only [jn_add, jn_sub, jn_mul, jn_neg, li_0, li_1, li_2, li_3, li_4, li_5, li_6, li_7, li_8, li_9, li_10, li_11, li_12, li_13, li_14, li_15, li_16, li_17, li_18, li_20, li_24, li_29, li_30, li_31, li_32, li_37, li_39, li_40, li_42, li_43, li_45, li_46, li_47, li_48, li_53, li_57, li_59, li_60, li_61, li_62, li_63, li_80, li_81, li_91, li_93, li_97, li_100, li_122, li_200, li_255, li_256, li_257, li_258, li_259, li_260, li_300, li_314, li_400, li_580, li_999, li_5040, li_9999, li_65536, li_99999, li_7654321] <;> first | rfl | exact congrArg jn (by omega)) | exact congrArg jn (by omega))) (by omega) ?_ (fun q hq => ?_) (fun q hq => ?_) hwh (by omega)
        · rw [e12, e3, show (3 : Int32) * jn (p : Int) = jn ((3 * p : Nat) : Int) from by rw [li_3, jn_mul]; rfl, jn_shl (by omega), jn_or]
          refine congrArg (fun x : Nat => jn (x : Int)) ?_
          have e8 : (8 : Nat) ^ p = 2 ^ (3 * p) := by rw [Nat.pow_mul]
          rw [e8] at h8
          have := Nat.two_pow_add_eq_or_of_lt h8 (O p)
          rw [Nat.or_comm, Nat.mul_comm (O p), ← this]
          show _ = p8 p O + O p * 8 ^ p
          rw [e8, Nat.mul_comm (O p)]; omega
        · by_cases e : q = p
          · rw [e11, e, upd_at]
          · rw [e11, upd_ne e]; exact ho q (by omega)
        · by_cases e : q = p
          · rw [e14, e, upd_at]; rfl
          · rw [e14, upd_ne (Pm_ne hP (by omega) (by omega) e)]; exact hel q (by omega)
  unfold wp_X5_explore
  have anew : wp_J7_fill_53178 N 5040 (fun m2 => (wp_X5_explore_44 N (jn sp) (jn m) lp od bk K N) (0 : Int32) (0 : Int32) (jn m) (jn sp) el (0 : Int32) m2 rw' fr de eo ep ee) (0 : Int32) wh :=
    wl_fill (by omega) (by omega) (fun a' ha => key2 N 0 _ _ _ _ _ _ _ _ _ _ rfl (by omega) rfl (fun q hq => by omega) (fun q hq => by omega) ha (by omega))
  rcases hx with hx | ⟨m', sp', cl, r0, F, Q, pa, la, dp, h1, h2, h3, h4⟩
  · unfold wp_X5_isAsExplored wp_X5_isAsExplored_22
    refine ⟨fun z => ?_, fun _ => ⟨fun _ => anew, fun y => absurd rfl y⟩⟩
    rw [hx, show (-1 : Int32) = jn (-1) from rfl, jn_eq (by omega) (by omega)] at z
    omega
  · refine wl_isAs (by omega) hm hsp hL hO hB hLb hBb hP h1 h2 h4 ⟨fun _ => anew, fun y => absurd rfl y⟩ (fun q1 q2 q3 q4 => ⟨fun y => absurd y (by decide), fun _ => ?_⟩)
    subst q1 q2
    obtain ⟨x1, x2, x3, x4, x5⟩ := h4
    have hcl : ∀ c d, c < m' → d < m' → cl c d = clf LP BK c d := by
      intro c d hc hd
      have := congrArg (fun x : Nat => x.testBit d) (q4 c hc)
      unfold lb at this
      simp only [bs_bit, decide_eq_true hd, Bool.true_and] at this
      exact this
    refine hK F Q pa la dp _ _ _ _ _ _ _ _ _ _ _ ⟨x1, x2, fun c hc => ?_, x4, ?_⟩
    · rw [x3 c hc, q4 c hc]
    · have e0 : rk m' r0 = rk m' O := by
        rw [← x5.2.1]; exact rk_congr q3
      rw [← e0]
      exact RB_congr (fun a l b => ⟨Lg_congr hcl, Lg_congr (fun c d a b => (hcl c d a b).symm)⟩) x5
end CEX
