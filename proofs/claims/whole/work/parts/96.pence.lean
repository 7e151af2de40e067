/-! pence, both -/
def pnF (mu all lost : Int32) (P : Nat → Int32) (c : Nat) : Nat → Int32 × Int32
  | 0 => (mu, 0)
  | n + 1 => ((pnF mu all lost P c n).1 - mu * P n / all, if lost < mu * P n - mu * P n / all * all ∨ (mu * P n - mu * P n / all * all = lost ∧ n < c) then (pnF mu all lost P c n).2 + 1 else (pnF mu all lost P c n).2)
def pnR (mu : Int32) (k : Nat) (g : gS) (c : Nat) : Int32 × Int32 := pnF mu (jn (sumTo (g_p g) k : Int)) (mu * jn (g_p g c : Int) - mu * jn (g_p g c : Int) / jn (sumTo (g_p g) k : Int) * jn (sumTo (g_p g) k : Int)) (fun i => jn (g_p g i : Int)) c k
def aPe (k : Nat) (g : gS) (mu : Int32) (c : Nat) : Int32 := if sumTo (g_p g) k = 0 then 0 else mu * jn (g_p g c : Int) / jn (sumTo (g_p g) k : Int) + (if (pnR mu k g c).1 ≤ (pnR mu k g c).2 then 0 else 1)
def qPe (k : Nat) (x y : Int32) (c : Nat) : Prop := asC k y = some c ∧ 0 ≤ x.toInt ∧ x.toInt ≤ 9999
section PEN
variable {N : Nat} {l : lS} {g : gS} {x y : Int32}
theorem sum7 (hk : l_k l ≤ 7) (hg : GOk (l_k l) g) : sumTo (g_p g) (l_k l) ≤ 6993 := by
  have := sumTo_le (F := g_p g) (b := 999) (n := l_k l) (fun c _ => hg.2.2.2 c)
  have h2 : l_k l * 999 ≤ 7 * 999 := Nat.mul_le_mul_right _ hk
  omega
theorem wl_pence {Q : Int32 → Prop} {lp : Nat → Int32} (hN : 20 ≤ N) (hl : LOk l) (hg : GOk (l_k l) g) (hP : ar (l_k l) lp (g_p g)) (h0 : (∀ c, ¬ qPe (l_k l) x y c) → Q (-1)) (h1 : ∀ c, qPe (l_k l) x y c → Q (aPe (l_k l) g x c)) : wp_X11_pence_N N (jn (l_k l)) lp Q x y := by
  have hk := hl.2.2.1
  have hs := sum7 hk hg
  obtain ⟨a, rfl, ha⟩ := jn_of x
  have ea : (jn a).toInt = a := jn_toInt ha
  unfold wp_X11_pence_N wp_X11_pence_N_19
  refine wl_isCh_N hk (fun hno => ⟨fun _ => h0 (fun c hq => ?_), fun q => absurd rfl q⟩) (fun c hc hs' hx => ⟨fun q => absurd q (by decide), fun _ => ?_⟩)
  · have := hq.1; rw [hno] at this; cases this
  have q0 : ¬ (0 ≤ a ∧ a ≤ 9999) → Q (-1) := fun z => h0 (fun c hq => by have := hq.2; rw [ea] at this; omega)
  rw [li_0, li_9999, jn_lt ha (by omega), jn_le ha (by omega), ← li_0]
  refine ⟨fun z => q0 (by omega), fun z => ⟨fun z1 => ?_, fun z1 => q0 (by omega)⟩⟩
  have hQ := h1 c ⟨hs', by rw [ea]; omega, by rw [ea]; omega⟩
  refine wl_allLeapt hk (by omega) hP ?_
  rw [li_0, jn_lt (by omega) (by omega), ← li_0]
  unfold aPe at hQ
  refine ⟨fun z2 => ?_, fun z2 => ?_⟩
  · rw [if_neg (by omega)] at hQ
    subst hx
    have hne : ¬ jn (sumTo (g_p g) (l_k l) : Int) = 0 := by rw [li_0, jn_eq (by omega) (by omega)]; omega
    refine ⟨by simp (disch := omega) only [jn_le, jn_lt, jn_eq, jn_in, jn_add, jn_sub, jn_mul, jn_neg, li_0, li_1, li_2, li_3, li_4, li_5, li_6, li_7, li_8, li_9, li_10, li_11, li_12, li_13, li_14, li_15, li_16, li_17, li_18, li_20, li_24, li_29, li_30, li_31, li_32, li_37, li_39, li_40, li_42, li_43, li_45, li_46, li_47, li_48, li_53, li_57, li_59, li_60, li_61, li_62, li_63, li_80, li_81, li_91, li_93, li_97, li_100, li_122, li_200, li_255, li_256, li_257, li_258, li_259, li_260, li_300, li_314, li_400, li_580, li_999, li_5040, li_9999, li_65536, li_99999, li_7654321] <;> omega, hne, fun x3 e3 => ?_⟩
    rw [jn_cln (by omega), hP c hc] at e3
    have key : ∀ (n i : Nat) (v6 v7 v8 : Int32), v8 = jn (i : Int) → i ≤ l_k l → v6 = (pnF (jn a) (jn (sumTo (g_p g) (l_k l) : Int)) x3 (fun i => jn (g_p g i : Int)) c i).1 → v7 = (pnF (jn a) (jn (sumTo (g_p g) (l_k l) : Int)) x3 (fun i => jn (g_p g i : Int)) c i).2 → l_k l < n + i → wp_X11_pence_N_76 N (jn (l_k l)) lp Q n (jn a) (jn (c : Int)) (jn (sumTo (g_p g) (l_k l) : Int)) x3 v6 v7 v8 := by
      intro n
      induction n with
      | zero => intro i v6 v7 v8 _ h1 _ _ h2; omega
      | succ n ih =>
        intro i v6 v7 v8 e8 hi e6 e7 hn
        subst e8
        unfold wp_X11_pence_N_76 wp_X11_pence_N_165 wp_X11_pence_N_136 wp_X11_pence_N_139
        rw [jn_le (by omega) (by omega)]
        refine ⟨fun z => ?_, fun z => ?_⟩
        · have e : i = l_k l := by omega
          subst e
          refine ⟨by simp (disch := omega) only [jn_le, jn_lt, jn_eq, jn_in, jn_add, jn_sub, jn_mul, jn_neg, li_0, li_1, li_2, li_3, li_4, li_5, li_6, li_7, li_8, li_9, li_10, li_11, li_12, li_13, li_14, li_15, li_16, li_17, li_18, li_20, li_24, li_29, li_30, li_31, li_32, li_37, li_39, li_40, li_42, li_43, li_45, li_46, li_47, li_48, li_53, li_57, li_59, li_60, li_61, li_62, li_63, li_80, li_81, li_91, li_93, li_97, li_100, li_122, li_200, li_255, li_256, li_257, li_258, li_259, li_260, li_300, li_314, li_400, li_580, li_999, li_5040, li_9999, li_65536, li_99999, li_7654321] <;> omega, hne, ?_⟩
          rw [jn_cln (by omega), hP c hc, e6, e7]
          unfold pnR at hQ
          rw [← e3] at hQ
          refine ⟨fun y => ?_, fun y => ?_⟩
          · rwa [if_pos y] at hQ
          · rwa [if_neg y] at hQ
        · refine ⟨by simp (disch := omega) only [jn_le, jn_lt, jn_eq, jn_in, jn_add, jn_sub, jn_mul, jn_neg, li_0, li_1, li_2, li_3, li_4, li_5, li_6, li_7, li_8, li_9, li_10, li_11, li_12, li_13, li_14, li_15, li_16, li_17, li_18, li_20, li_24, li_29, li_30, li_31, li_32, li_37, li_39, li_40, li_42, li_43, li_45, li_46, li_47, li_48, li_53, li_57, li_59, li_60, li_61, li_62, li_63, li_80, li_81, li_91, li_93, li_97, li_100, li_122, li_200, li_255, li_256, li_257, li_258, li_259, li_260, li_300, li_314, li_400, li_580, li_999, li_5040, li_9999, li_65536, li_99999, li_7654321] <;> omega, hne, fun x4 e4 => ⟨by simp (disch := omega) only [jn_le, jn_lt, jn_eq, jn_in, jn_add, jn_sub, jn_mul, jn_neg, li_0, li_1, li_2, li_3, li_4, li_5, li_6, li_7, li_8, li_9, li_10, li_11, li_12, li_13, li_14, li_15, li_16, li_17, li_18, li_20, li_24, li_29, li_30, li_31, li_32, li_37, li_39, li_40, li_42, li_43, li_45, li_46, li_47, li_48, li_53, li_57, li_59, li_60, li_61, li_62, li_63, li_80, li_81, li_91, li_93, li_97, li_100, li_122, li_200, li_255, li_256, li_257, li_258, li_259, li_260, li_300, li_314, li_400, li_580, li_999, li_5040, li_9999, li_65536, li_99999, li_7654321] <;> omega, hne, fun x5 e5 => ?_⟩⟩
          rw [jn_cln (by omega), hP i (by omega)] at e4 e5
          rw [jn_le (by omega) (by omega)]
          have st6 : x4 = (pnF (jn a) (jn (sumTo (g_p g) (l_k l) : Int)) x3 (fun i => jn (g_p g i : Int)) c (i + 1)).1 := by rw [e4, e6]; rfl
          have st7 : ∀ v, (if x3 < x5 ∨ (x5 = x3 ∧ i < c) then v7 + 1 else v7) = v → v = (pnF (jn a) (jn (sumTo (g_p g) (l_k l) : Int)) x3 (fun i => jn (g_p g i : Int)) c (i + 1)).2 := by
            intro v hv
            rw [← hv, e5, e7]; rfl
          refine ⟨fun y => ?_, fun y => ⟨fun y1 => ⟨fun y2 => ?_, fun y2 => ?_⟩, fun y1 => ?_⟩⟩
          · exact ih (i + 1) _ _ _ (by (first | rfl | (simp (disch := omega) only [jn_add, jn_sub, jn_mul, jn_neg, li_0, li_1, li_2, li_3, li_4, li_5, li_6, li_7, li_8, li_9, li_10, li_11, li_12, li_13, li_14, li_15, li_16, li_17, li_18, li_20, li_24, li_29, li_30, li_31, li_32, li_37, li_39, li_40, li_42, li_43, li_45, li_46, li_47, li_48, li_53, li_57, li_59, li_60, li_61, li_62, li_63, li_80, li_81, li_91, li_93, li_97, li_100, li_122, li_200, li_255, li_256, li_257, li_258, li_259, li_260, li_300, li_314, li_400, li_580, li_999, li_5040, li_9999, li_65536, li_99999, li_7654321] <;> first | rfl | exact congrArg jn (by omega)) | exact congrArg jn (by omega))) (by omega) st6 (st7 _ (if_pos (Or.inl y))) (by omega)
          · exact ih (i + 1) _ _ _ (by (first | rfl | (simp (disch := omega) only [jn_add, jn_sub, jn_mul, jn_neg, li_0, li_1, li_2, li_3, li_4, li_5, li_6, li_7, li_8, li_9, li_10, li_11, li_12, li_13, li_14, li_15, li_16, li_17, li_18, li_20, li_24, li_29, li_30, li_31, li_32, li_37, li_39, li_40, li_42, li_43, li_45, li_46, li_47, li_48, li_53, li_57, li_59, li_60, li_61, li_62, li_63, li_80, li_81, li_91, li_93, li_97, li_100, li_122, li_200, li_255, li_256, li_257, li_258, li_259, li_260, li_300, li_314, li_400, li_580, li_999, li_5040, li_9999, li_65536, li_99999, li_7654321] <;> first | rfl | exact congrArg jn (by omega)) | exact congrArg jn (by omega))) (by omega) st6 (st7 _ (if_neg (by rintro (q | q); (exact y q); (omega)))) (by omega)
          · exact ih (i + 1) _ _ _ (by (first | rfl | (simp (disch := omega) only [jn_add, jn_sub, jn_mul, jn_neg, li_0, li_1, li_2, li_3, li_4, li_5, li_6, li_7, li_8, li_9, li_10, li_11, li_12, li_13, li_14, li_15, li_16, li_17, li_18, li_20, li_24, li_29, li_30, li_31, li_32, li_37, li_39, li_40, li_42, li_43, li_45, li_46, li_47, li_48, li_53, li_57, li_59, li_60, li_61, li_62, li_63, li_80, li_81, li_91, li_93, li_97, li_100, li_122, li_200, li_255, li_256, li_257, li_258, li_259, li_260, li_300, li_314, li_400, li_580, li_999, li_5040, li_9999, li_65536, li_99999, li_7654321] <;> first | rfl | exact congrArg jn (by omega)) | exact congrArg jn (by omega))) (by omega) st6 (st7 _ (if_pos (Or.inr ⟨y1, by omega⟩))) (by omega)
          · exact ih (i + 1) _ _ _ (by (first | rfl | (simp (disch := omega) only [jn_add, jn_sub, jn_mul, jn_neg, li_0, li_1, li_2, li_3, li_4, li_5, li_6, li_7, li_8, li_9, li_10, li_11, li_12, li_13, li_14, li_15, li_16, li_17, li_18, li_20, li_24, li_29, li_30, li_31, li_32, li_37, li_39, li_40, li_42, li_43, li_45, li_46, li_47, li_48, li_53, li_57, li_59, li_60, li_61, li_62, li_63, li_80, li_81, li_91, li_93, li_97, li_100, li_122, li_200, li_255, li_256, li_257, li_258, li_259, li_260, li_300, li_314, li_400, li_580, li_999, li_5040, li_9999, li_65536, li_99999, li_7654321] <;> first | rfl | exact congrArg jn (by omega)) | exact congrArg jn (by omega))) (by omega) st6 (st7 _ (if_neg (by rintro (q | q); (exact y q); (exact y1 q.1)))) (by omega)
    exact key N 0 _ _ _ rfl (by omega) rfl rfl (by omega)
  · rw [if_pos (by omega)] at hQ; exact hQ
theorem wm_pence {Q : Int32 → Prop} {sd : Nat → Int32} (hN : 20 ≤ N) (hl : LOk l) (hg : GOk (l_k l) g) (hL : mL sd l) (hG : mG (l_k l) sd g) (h0 : (∀ c, ¬ qPe (l_k l) x y c) → Q (-1)) (h1 : ∀ c, qPe (l_k l) x y c → Q (aPe (l_k l) g x c)) : wp_X12_pence N sd Q x y := by
  have hk := hl.2.2.1
  have hs := sum7 hk hg
  obtain ⟨a, rfl, ha⟩ := jn_of x
  have ea : (jn a).toInt = a := jn_toInt ha
  unfold wp_X12_pence wp_X12_pence_20
  refine wm_isCh hk hL.2.2.1 (fun hno => ⟨fun _ => h0 (fun c hq => ?_), fun q => absurd rfl q⟩) (fun c hc hs' hx => ⟨fun q => absurd q (by decide), fun _ => ?_⟩)
  · have := hq.1; rw [hno] at this; cases this
  refine wm_inC (b := 0) (c := 9999) rfl rfl rfl ha (by decide) (by decide) (fun q1 => ⟨fun u => absurd u (by decide), fun _ => ?_⟩) (fun q1 => ⟨fun _ => h0 (fun c hq => by have := hq.2; rw [ea] at this; omega), fun u => absurd rfl u⟩)
  have hQ := h1 c ⟨hs', by rw [ea]; omega, by rw [ea]; omega⟩
  refine wm_leaptAll (by omega) hl hL hG ?_
  rw [li_0, jn_eq (by omega) (by omega), ← li_0]
  unfold aPe at hQ
  refine ⟨fun z2 => ?_, fun z2 => ?_⟩
  · rw [if_pos (by omega)] at hQ; exact hQ
  · rw [if_neg (by omega)] at hQ
    subst hx
    have hne : ¬ jn (sumTo (g_p g) (l_k l) : Int) = 0 := by rw [li_0, jn_eq (by omega) (by omega)]; omega
    refine wm_leaptOf rfl (by omega) (fun x5 e5 => ?_)
    rw [hG.2.2.2.2 c hc] at e5
    subst e5
    unfold pnR at hQ
    generalize hx3 : jn a * jn (g_p g c : Int) - jn a * jn (g_p g c : Int) / jn (sumTo (g_p g) (l_k l) : Int) * jn (sumTo (g_p g) (l_k l) : Int) = x3 at hQ
    have key : ∀ (n i : Nat) (v5 v6 v7 : Int32), v7 = jn (i : Int) → i ≤ l_k l → v5 = (pnF (jn a) (jn (sumTo (g_p g) (l_k l) : Int)) x3 (fun i => jn (g_p g i : Int)) c i).1 → v6 = (pnF (jn a) (jn (sumTo (g_p g) (l_k l) : Int)) x3 (fun i => jn (g_p g i : Int)) c i).2 → l_k l < n + i → wp_X12_pence_51 N sd Q n (jn a) (jn (c : Int)) (jn (sumTo (g_p g) (l_k l) : Int)) (jn a * jn (g_p g c : Int)) v5 v6 v7 := by
      intro n
      induction n with
      | zero => intro i v5 v6 v7 _ h1 _ _ h2; omega
      | succ n ih =>
        intro i v5 v6 v7 e7 hi e5 e6 hn
        subst e7
        unfold wp_X12_pence_51 wp_X12_pence_141 wp_X12_pence_111 wp_X12_pence_115 wp_X12_pence_116
        rw [show (2 : Int32).toNatClampNeg = 2 from rfl, hL.2.2.1, jn_le (by omega) (by omega), hx3]
        refine ⟨by unfold vp_in; decide, fun z => ?_, fun z => ?_⟩
        · have e : i = l_k l := by omega
          subst e
          refine ⟨hne, ?_⟩
          rw [e5, e6]
          refine ⟨fun y => ?_, fun y => ?_⟩
          · rwa [if_pos y] at hQ
          · rwa [if_neg y] at hQ
        · refine wm_leaptOf rfl (by omega) (fun x7 e7 => ⟨hne, fun x8 e8 => ⟨hne, hne, ?_⟩⟩)
          rw [hG.2.2.2.2 i (by omega)] at e7
          rw [jn_le (by omega) (by omega)]
          subst e7
          generalize hx5 : jn a * jn (g_p g i : Int) - jn a * jn (g_p g i : Int) / jn (sumTo (g_p g) (l_k l) : Int) * jn (sumTo (g_p g) (l_k l) : Int) = x5
          have st6 : x8 = (pnF (jn a) (jn (sumTo (g_p g) (l_k l) : Int)) x3 (fun i => jn (g_p g i : Int)) c (i + 1)).1 := by rw [e8, e5]; rfl
          have st7 : ∀ v, (if x3 < x5 ∨ (x5 = x3 ∧ i < c) then v6 + 1 else v6) = v → v = (pnF (jn a) (jn (sumTo (g_p g) (l_k l) : Int)) x3 (fun i => jn (g_p g i : Int)) c (i + 1)).2 := by
            intro v hv
            rw [← hv, ← hx5, e6]; rfl
          refine ⟨fun y x9 e9 => ?_, fun y => ⟨hne, hne, fun y1 => ⟨fun y2 x9 e9 => ?_, fun y2 x9 e9 => ?_⟩, fun y1 x9 e9 => ?_⟩⟩
          · exact ih (i + 1) _ _ _ (by (first | rfl | (simp (disch := omega) only [jn_add, jn_sub, jn_mul, jn_neg, li_0, li_1, li_2, li_3, li_4, li_5, li_6, li_7, li_8, li_9, li_10, li_11, li_12, li_13, li_14, li_15, li_16, li_17, li_18, li_20, li_24, li_29, li_30, li_31, li_32, li_37, li_39, li_40, li_42, li_43, li_45, li_46, li_47, li_48, li_53, li_57, li_59, li_60, li_61, li_62, li_63, li_80, li_81, li_91, li_93, li_97, li_100, li_122, li_200, li_255, li_256, li_257, li_258, li_259, li_260, li_300, li_314, li_400, li_580, li_999, li_5040, li_9999, li_65536, li_99999, li_7654321] <;> first | rfl | exact congrArg jn (by omega)) | exact congrArg jn (by omega))) (by omega) st6 (st7 _ (by rw [e9]; exact if_pos (Or.inl y))) (by omega)
          · exact ih (i + 1) _ _ _ (by (first | rfl | (simp (disch := omega) only [jn_add, jn_sub, jn_mul, jn_neg, li_0, li_1, li_2, li_3, li_4, li_5, li_6, li_7, li_8, li_9, li_10, li_11, li_12, li_13, li_14, li_15, li_16, li_17, li_18, li_20, li_24, li_29, li_30, li_31, li_32, li_37, li_39, li_40, li_42, li_43, li_45, li_46, li_47, li_48, li_53, li_57, li_59, li_60, li_61, li_62, li_63, li_80, li_81, li_91, li_93, li_97, li_100, li_122, li_200, li_255, li_256, li_257, li_258, li_259, li_260, li_300, li_314, li_400, li_580, li_999, li_5040, li_9999, li_65536, li_99999, li_7654321] <;> first | rfl | exact congrArg jn (by omega)) | exact congrArg jn (by omega))) (by omega) st6 (st7 _ (by rw [e9, Int32.add_zero]; exact if_neg (by rintro (q | q); (exact y q); (omega)))) (by omega)
          · exact ih (i + 1) _ _ _ (by (first | rfl | (simp (disch := omega) only [jn_add, jn_sub, jn_mul, jn_neg, li_0, li_1, li_2, li_3, li_4, li_5, li_6, li_7, li_8, li_9, li_10, li_11, li_12, li_13, li_14, li_15, li_16, li_17, li_18, li_20, li_24, li_29, li_30, li_31, li_32, li_37, li_39, li_40, li_42, li_43, li_45, li_46, li_47, li_48, li_53, li_57, li_59, li_60, li_61, li_62, li_63, li_80, li_81, li_91, li_93, li_97, li_100, li_122, li_200, li_255, li_256, li_257, li_258, li_259, li_260, li_300, li_314, li_400, li_580, li_999, li_5040, li_9999, li_65536, li_99999, li_7654321] <;> first | rfl | exact congrArg jn (by omega)) | exact congrArg jn (by omega))) (by omega) st6 (st7 _ (by rw [e9]; exact if_pos (Or.inr ⟨y1, by omega⟩))) (by omega)
          · exact ih (i + 1) _ _ _ (by (first | rfl | (simp (disch := omega) only [jn_add, jn_sub, jn_mul, jn_neg, li_0, li_1, li_2, li_3, li_4, li_5, li_6, li_7, li_8, li_9, li_10, li_11, li_12, li_13, li_14, li_15, li_16, li_17, li_18, li_20, li_24, li_29, li_30, li_31, li_32, li_37, li_39, li_40, li_42, li_43, li_45, li_46, li_47, li_48, li_53, li_57, li_59, li_60, li_61, li_62, li_63, li_80, li_81, li_91, li_93, li_97, li_100, li_122, li_200, li_255, li_256, li_257, li_258, li_259, li_260, li_300, li_314, li_400, li_580, li_999, li_5040, li_9999, li_65536, li_99999, li_7654321] <;> first | rfl | exact congrArg jn (by omega)) | exact congrArg jn (by omega))) (by omega) st6 (st7 _ (by rw [e9, Int32.add_zero]; exact if_neg (by rintro (q | q); (exact y q); (exact y1 q.1)))) (by omega)
    exact key N 0 _ _ _ rfl (by omega) rfl rfl (by omega)
end PEN
