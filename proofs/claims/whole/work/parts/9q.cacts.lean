/-! acts: the class -/
def LK : List Nat := [22, 23, 13, 14, 15, 16, 17, 41, 42, 43, 44, 45]
theorem rn_back {L : List Nat} (hL : L.length ≤ 900) (o : Option Nat) : (o.map (ax_tau L)).map (ax_the L) = o := by
  cases o with
  | none => rfl
  | some a => show some (ax_the L (ax_tau L a)) = some a; rw [ax_the_tau hL]
theorem cg_back {cg cg2 : Nat → Option Nat} {nx : Nat} (h : cg2 = va_up (fun i => (cg i).map (ax_tau [22, 23, 13, 14, 15, 16, 17, 41, 42, 43, 44, 45])) nx (some 7)) : (fun i => (cg2 i).map (ax_the [22, 23, 13, 14, 15, 16, 17, 41, 42, 43, 44, 45])) = va_up cg nx (some 41) := by
  funext i
  rw [h]
  unfold va_up
  by_cases e : i = nx
  · rw [if_pos e, if_pos e]; rfl
  · rw [if_neg e, if_neg e]; exact rn_back (by decide) _
section CAC
variable {N k nx pm : Nat} {a : aS} {g : gS} {gt gt' an am yt : Int32} {go gb gr gl yo yb yr yl : Nat → Int32} {cg : Nat → Option Nat} {t s m tn inf rm : Int32} {lb lv lr od bk br lp : Nat → Int32} {rl : Nat → Option Nat}
theorem nx_up (hnx : nx < 20) : jn (nx : Int) + 1 - (jn (nx : Int) + 1) / (20 : Int32) * (20 : Int32) = jn (((nx + 1) % 20 : Nat) : Int) := by
  rw [show jn (nx : Int) + 1 = jn ((nx + 1 : Nat) : Int) from by (first | rfl | (simp (disch := omega) only [jn_add, jn_sub, jn_mul, jn_neg, li_0, li_1, li_2, li_3, li_4, li_5, li_6, li_7, li_8, li_9, li_10, li_11, li_12, li_13, li_14, li_15, li_16, li_17, li_18, li_20, li_24, li_29, li_30, li_31, li_32, li_37, li_39, li_40, li_42, li_43, li_45, li_46, li_47, li_48, li_53, li_57, li_59, li_60, li_61, li_62, li_63, li_80, li_81, li_91, li_93, li_97, li_100, li_122, li_200, li_255, li_256, li_257, li_258, li_259, li_260, li_300, li_314, li_400, li_580, li_999, li_5040, li_9999, li_65536, li_99999, li_7654321] <;> first | rfl | exact congrArg jn (by omega)) | exact congrArg jn (by omega))]
  exact jn_modN (k := 20) (by omega) (by decide) (by decide)
theorem cl_keep_A {Q : (Nat → Option Nat) → Int32 → Int32 → Int32 → (Nat → Int32) → (Nat → Int32) → (Nat → Int32) → (Nat → Int32) → Prop} (hk : k ≤ 7) (hnx : nx < 20) (han : an = jn (nx : Int)) (hpm : pm ≤ 20) (ham : am = jn (pm : Int)) (hG : cG k gt go gb gr gl g) (hc : cg nx = none) (h : ∀ cg2 yt yo yb yr yl, cg2 = va_up cg nx (some 7) → cG k yt yo yb yr yl g → Q cg2 (jn (((nx + 1) % 20 : Nat) : Int)) (jn (kpN pm : Int)) yt yo yb yr yl) : wp_X4_keep_A N gt go gb gr gl Q cg an am yt yo yb yr yl := by
  subst han ham
  unfold wp_X4_keep_A wp_X4_keep_A_28
  rw [jn_cln (by omega), nx_up hnx]
  refine ⟨by simp (disch := omega) only [jn_le, jn_lt, jn_eq, jn_in, jn_add, jn_sub, jn_mul, jn_neg, li_0, li_1, li_2, li_3, li_4, li_5, li_6, li_7, li_8, li_9, li_10, li_11, li_12, li_13, li_14, li_15, li_16, li_17, li_18, li_20, li_24, li_29, li_30, li_31, li_32, li_37, li_39, li_40, li_42, li_43, li_45, li_46, li_47, li_48, li_53, li_57, li_59, li_60, li_61, li_62, li_63, li_80, li_81, li_91, li_93, li_97, li_100, li_122, li_200, li_255, li_256, li_257, li_258, li_259, li_260, li_300, li_314, li_400, li_580, li_999, li_5040, li_9999, li_65536, li_99999, li_7654321] <;> omega, hc, by simp (disch := omega) only [jn_le, jn_lt, jn_eq, jn_in, jn_add, jn_sub, jn_mul, jn_neg, li_0, li_1, li_2, li_3, li_4, li_5, li_6, li_7, li_8, li_9, li_10, li_11, li_12, li_13, li_14, li_15, li_16, li_17, li_18, li_20, li_24, li_29, li_30, li_31, li_32, li_37, li_39, li_40, li_42, li_43, li_45, li_46, li_47, li_48, li_53, li_57, li_59, li_60, li_61, li_62, li_63, li_80, li_81, li_91, li_93, li_97, li_100, li_122, li_200, li_255, li_256, li_257, li_258, li_259, li_260, li_300, li_314, li_400, li_580, li_999, li_5040, li_9999, li_65536, li_99999, li_7654321] <;> omega, fun a1 e1 => ⟨by simp (disch := omega) only [jn_le, jn_lt, jn_eq, jn_in, jn_add, jn_sub, jn_mul, jn_neg, li_0, li_1, li_2, li_3, li_4, li_5, li_6, li_7, li_8, li_9, li_10, li_11, li_12, li_13, li_14, li_15, li_16, li_17, li_18, li_20, li_24, li_29, li_30, li_31, li_32, li_37, li_39, li_40, li_42, li_43, li_45, li_46, li_47, li_48, li_53, li_57, li_59, li_60, li_61, li_62, li_63, li_80, li_81, li_91, li_93, li_97, li_100, li_122, li_200, li_255, li_256, li_257, li_258, li_259, li_260, li_300, li_314, li_400, li_580, li_999, li_5040, li_9999, li_65536, li_99999, li_7654321] <;> omega, by rw [e1]; exact if_pos rfl, wl_takeG (fun o b r l e2 e3 e4 e5 => ⟨by decide, wl_min (a := 20) (b := pm + 1) rfl (by (first | rfl | (simp (disch := omega) only [jn_add, jn_sub, jn_mul, jn_neg, li_0, li_1, li_2, li_3, li_4, li_5, li_6, li_7, li_8, li_9, li_10, li_11, li_12, li_13, li_14, li_15, li_16, li_17, li_18, li_20, li_24, li_29, li_30, li_31, li_32, li_37, li_39, li_40, li_42, li_43, li_45, li_46, li_47, li_48, li_53, li_57, li_59, li_60, li_61, li_62, li_63, li_80, li_81, li_91, li_93, li_97, li_100, li_122, li_200, li_255, li_256, li_257, li_258, li_259, li_260, li_300, li_314, li_400, li_580, li_999, li_5040, li_9999, li_65536, li_99999, li_7654321] <;> first | rfl | exact congrArg jn (by omega)) | exact congrArg jn (by omega))) (by omega) (by omega) ?_⟩)⟩⟩
  exact h _ _ _ _ _ _ e1 (cG_of hk hG e2 e3 e4 e5)
theorem cl_keep_P {Q : Int32 → Int32 → Int32 → (Nat → Int32) → (Nat → Int32) → (Nat → Int32) → (Nat → Int32) → Prop} (hk : k ≤ 7) (hnx : nx < 20) (han : an = jn (nx : Int)) (hpm : pm ≤ 20) (ham : am = jn (pm : Int)) (hG : cG k gt go gb gr gl g) (hc : cg nx = some 7) (h : ∀ yt yo yb yr yl, cG k yt yo yb yr yl g → Q (jn (((nx + 1) % 20 : Nat) : Int)) (jn (kpN pm : Int)) yt yo yb yr yl) : wp_X4_keep_P N cg gt go gb gr gl Q an am yt yo yb yr yl := by
  subst han ham
  unfold wp_X4_keep_P wp_X4_keep_P_28
  rw [jn_cln (by omega), nx_up hnx]
  refine ⟨by simp (disch := omega) only [jn_le, jn_lt, jn_eq, jn_in, jn_add, jn_sub, jn_mul, jn_neg, li_0, li_1, li_2, li_3, li_4, li_5, li_6, li_7, li_8, li_9, li_10, li_11, li_12, li_13, li_14, li_15, li_16, li_17, li_18, li_20, li_24, li_29, li_30, li_31, li_32, li_37, li_39, li_40, li_42, li_43, li_45, li_46, li_47, li_48, li_53, li_57, li_59, li_60, li_61, li_62, li_63, li_80, li_81, li_91, li_93, li_97, li_100, li_122, li_200, li_255, li_256, li_257, li_258, li_259, li_260, li_300, li_314, li_400, li_580, li_999, li_5040, li_9999, li_65536, li_99999, li_7654321] <;> omega, hc, by simp (disch := omega) only [jn_le, jn_lt, jn_eq, jn_in, jn_add, jn_sub, jn_mul, jn_neg, li_0, li_1, li_2, li_3, li_4, li_5, li_6, li_7, li_8, li_9, li_10, li_11, li_12, li_13, li_14, li_15, li_16, li_17, li_18, li_20, li_24, li_29, li_30, li_31, li_32, li_37, li_39, li_40, li_42, li_43, li_45, li_46, li_47, li_48, li_53, li_57, li_59, li_60, li_61, li_62, li_63, li_80, li_81, li_91, li_93, li_97, li_100, li_122, li_200, li_255, li_256, li_257, li_258, li_259, li_260, li_300, li_314, li_400, li_580, li_999, li_5040, li_9999, li_65536, li_99999, li_7654321] <;> omega, hc, wl_takeG (fun o b r l e2 e3 e4 e5 => ⟨by decide, wl_min (a := 20) (b := pm + 1) rfl (by (first | rfl | (simp (disch := omega) only [jn_add, jn_sub, jn_mul, jn_neg, li_0, li_1, li_2, li_3, li_4, li_5, li_6, li_7, li_8, li_9, li_10, li_11, li_12, li_13, li_14, li_15, li_16, li_17, li_18, li_20, li_24, li_29, li_30, li_31, li_32, li_37, li_39, li_40, li_42, li_43, li_45, li_46, li_47, li_48, li_53, li_57, li_59, li_60, li_61, li_62, li_63, li_80, li_81, li_91, li_93, li_97, li_100, li_122, li_200, li_255, li_256, li_257, li_258, li_259, li_260, li_300, li_314, li_400, li_580, li_999, li_5040, li_9999, li_65536, li_99999, li_7654321] <;> first | rfl | exact congrArg jn (by omega)) | exact congrArg jn (by omega))) (by omega) (by omega) ?_⟩)⟩
  exact h _ _ _ _ _ (cG_of hk hG e2 e3 e4 e5)
theorem cm_turn_N_0  {Q : Int32 → Prop} (hA : AOk a) (hL : cL t s m lb lv lr (a_l a)) (hG : cG (l_k (a_l a)) tn od bk br lp (a_g a)) (hno : ¬ (l_t (a_l a) = 1 ∧ g_t (a_g a) < 999)) (h : Q (-1)) : wp_X11_turn_N_0 N t tn Q := by
  obtain ⟨s1, s2, s3, s4, s5, s6⟩ := AOk_s hA
  have hl1 := s1.1
  unfold wp_X11_turn_N_0 wp_X11_turn_N_0_29
  rw [hL.1, hG.1, li_0, li_999, jn_eq (by omega) (by omega), jn_lt (by omega) (by omega)]
  exact ⟨fun _ => h, fun z => ⟨fun z1 => hno ⟨by omega, by omega⟩, fun _ => h⟩⟩
theorem cm_turn_N_A  {Q : Int32 → Int32 → (Nat → Int32) → (Nat → Int32) → (Nat → Int32) → (Nat → Option Nat) → Int32 → Int32 → Int32 → (Nat → Int32) → (Nat → Int32) → (Nat → Int32) → (Nat → Int32) → Prop} (hN : 6000 ≤ N) (hA : AOk a) (hF : ∀ K : Prop, K → wp_X11_ruleInForce_N N rm rl inf K) (hL : cL t s m lb lv lr (a_l a)) (hG : cG (l_k (a_l a)) tn od bk br lp (a_g a)) (hr : rNow a = none)  (hgo : l_t (a_l a) = 1 ∧ g_t (a_g a) < 999) (hnx : nx < 20) (han : an = jn (nx : Int)) (ham : am = jn (a_m a : Int)) (hc : cg nx = none)
    (h : ∀ tn od br lp cg2 yt yo yb yr yl, cG (l_k (a_l a)) tn od bk br lp (tS (a_l a) (rNow a) (a_g a)) → cg2 = va_up cg nx (some 41) → cG (l_k (a_l a)) yt yo yb yr yl (a_g a) → Q (jn (tR (a_l a) (rNow a) (a_g a))) tn od br lp cg2 (jn (((nx + 1) % 20 : Nat) : Int)) (jn (kpN (a_m a) : Int)) yt yo yb yr yl) : wp_X11_turn_N_A N rm rl t s m lv lr bk inf Q tn od br lp cg an am yt yo yb yr yl := by
  obtain ⟨s1, s2, s3, s4, s5, s6⟩ := AOk_s hA
  have hk := s1.2.2.1
  obtain ⟨l1, l2, l3, l4, l5, l6⟩ := hL
  have hok := rNow_ok hA
  rw [hr] at hok h
  unfold wp_X11_turn_N_A
  rw [l1, l2, l3, show (jn (l_t (a_l a) : Int) = 0) = (l_t (a_l a) = 0) from by rw [li_0, jn_eq (by omega) (by omega)]; exact propext ⟨fun q => by omega, fun q => by omega⟩, show (tn < 999) = (g_t (a_g a) < 999) from by rw [hG.1, li_999, jn_lt (by omega) (by omega)]; exact propext ⟨fun q => by omega, fun q => by omega⟩]
  refine ⟨fun z => absurd z (by omega), fun z => ⟨fun z1 => ?_, fun z1 => absurd hgo.2 z1⟩⟩
  refine cl_keep_A hk hnx han hA.2.2.2.2.2.1 ham hG (by show (cg nx).map _ = _; rw [hc]; rfl) (fun cg2 yt yo yb yr yl e0 hy => hF _ ?_)
  refine wl_pt_N (by omega) s1 s2 hG l5 l6 (by omega) (fun t' o' r' p' a1 => ?_)
  exact h _ _ _ _ _ _ _ _ _ _ a1 (cg_back e0) hy
theorem cm_turn_N_P  {Q : Int32 → Int32 → (Nat → Int32) → (Nat → Int32) → (Nat → Int32) → Int32 → Int32 → Int32 → (Nat → Int32) → (Nat → Int32) → (Nat → Int32) → (Nat → Int32) → Prop} (hN : 6000 ≤ N) (hA : AOk a) (hF : ∀ K : Prop, K → wp_X11_ruleInForce_N N rm rl inf K) (hL : cL t s m lb lv lr (a_l a)) (hG : cG (l_k (a_l a)) tn od bk br lp (a_g a)) (hr : rNow a = none)  (hgo : l_t (a_l a) = 1 ∧ g_t (a_g a) < 999) (hnx : nx < 20) (han : an = jn (nx : Int)) (ham : am = jn (a_m a : Int)) (hc : cg nx = some 41)
    (h : ∀ tn od br lp yt yo yb yr yl, cG (l_k (a_l a)) tn od bk br lp (tS (a_l a) (rNow a) (a_g a)) → cG (l_k (a_l a)) yt yo yb yr yl (a_g a) → Q (jn (tR (a_l a) (rNow a) (a_g a))) tn od br lp (jn (((nx + 1) % 20 : Nat) : Int)) (jn (kpN (a_m a) : Int)) yt yo yb yr yl) : wp_X11_turn_N_P N rm rl t s m lv lr bk inf cg Q tn od br lp an am yt yo yb yr yl := by
  obtain ⟨s1, s2, s3, s4, s5, s6⟩ := AOk_s hA
  have hk := s1.2.2.1
  obtain ⟨l1, l2, l3, l4, l5, l6⟩ := hL
  have hok := rNow_ok hA
  rw [hr] at hok h
  unfold wp_X11_turn_N_P
  rw [l1, l2, l3, show (jn (l_t (a_l a) : Int) = 0) = (l_t (a_l a) = 0) from by rw [li_0, jn_eq (by omega) (by omega)]; exact propext ⟨fun q => by omega, fun q => by omega⟩, show (tn < 999) = (g_t (a_g a) < 999) from by rw [hG.1, li_999, jn_lt (by omega) (by omega)]; exact propext ⟨fun q => by omega, fun q => by omega⟩]
  refine ⟨fun z => absurd z (by omega), fun z => ⟨fun z1 => ?_, fun z1 => absurd hgo.2 z1⟩⟩
  refine cl_keep_P hk hnx han hA.2.2.2.2.2.1 ham hG (by show (cg nx).map _ = _; rw [hc]; rfl) (fun yt yo yb yr yl hy => hF _ ?_)
  refine wl_pt_N (by omega) s1 s2 hG l5 l6 (by omega) (fun t' o' r' p' a1 => ?_)
  exact h _ _ _ _ _ _ _ _ _ a1 hy
theorem cm_turn_R_0 {len : Nat} {Q : Int32 → Prop} (hA : AOk a) (hL : cL t s m lb lv lr (a_l a)) (hG : cG (l_k (a_l a)) tn od bk br lp (a_g a)) (hno : ¬ (l_t (a_l a) = 1 ∧ g_t (a_g a) < 999)) (h : Q (-1)) : wp_X11_turn_R_0 N t tn len Q := by
  obtain ⟨s1, s2, s3, s4, s5, s6⟩ := AOk_s hA
  have hl1 := s1.1
  unfold wp_X11_turn_R_0 wp_X11_turn_R_0_29
  rw [hL.1, hG.1, li_0, li_999, jn_eq (by omega) (by omega), jn_lt (by omega) (by omega)]
  exact ⟨fun _ => h, fun z => ⟨fun z1 => hno ⟨by omega, by omega⟩, fun _ => h⟩⟩
theorem cm_turn_R_A {f : (Nat → Int64) → Int64} {code : Nat → Int32} {len : Nat} {u pl : Nat → Int64} {Q : Int32 → Int32 → (Nat → Int32) → (Nat → Int32) → (Nat → Int32) → (Nat → Option Nat) → Int32 → Int32 → (Nat → Int64) → (Nat → Int64) → Int32 → (Nat → Int32) → (Nat → Int32) → (Nat → Int32) → (Nat → Int32) → Prop} (hN : 6000 ≤ N) (hA : AOk a) (hF : ∀ K : Prop, K → wp_X11_ruleInForce_R N rm rl inf K) (hL : cL t s m lb lv lr (a_l a)) (hG : cG (l_k (a_l a)) tn od bk br lp (a_g a)) (hr : rNow a = (some f)) (hR : cR N code len f) (hgo : l_t (a_l a) = 1 ∧ g_t (a_g a) < 999) (hnx : nx < 20) (han : an = jn (nx : Int)) (ham : am = jn (a_m a : Int)) (hc : cg nx = none)
    (h : ∀ tn od br lp cg2 u pl yt yo yb yr yl, cG (l_k (a_l a)) tn od bk br lp (tS (a_l a) (rNow a) (a_g a)) → cg2 = va_up cg nx (some 41) → cG (l_k (a_l a)) yt yo yb yr yl (a_g a) → Q (jn (tR (a_l a) (rNow a) (a_g a))) tn od br lp cg2 (jn (((nx + 1) % 20 : Nat) : Int)) (jn (kpN (a_m a) : Int)) u pl yt yo yb yr yl) : wp_X11_turn_R_A N rm rl t s m lv lr bk inf code len Q tn od br lp cg an am u pl yt yo yb yr yl := by
  obtain ⟨s1, s2, s3, s4, s5, s6⟩ := AOk_s hA
  have hk := s1.2.2.1
  obtain ⟨l1, l2, l3, l4, l5, l6⟩ := hL
  have hok := rNow_ok hA
  rw [hr] at hok h
  unfold wp_X11_turn_R_A
  rw [l1, l2, l3, show (jn (l_t (a_l a) : Int) = 0) = (l_t (a_l a) = 0) from by rw [li_0, jn_eq (by omega) (by omega)]; exact propext ⟨fun q => by omega, fun q => by omega⟩, show (tn < 999) = (g_t (a_g a) < 999) from by rw [hG.1, li_999, jn_lt (by omega) (by omega)]; exact propext ⟨fun q => by omega, fun q => by omega⟩]
  refine ⟨fun z => absurd z (by omega), fun z => ⟨fun z1 => ?_, fun z1 => absurd hgo.2 z1⟩⟩
  refine cl_keep_A hk hnx han hA.2.2.2.2.2.1 ham hG (by show (cg nx).map _ = _; rw [hc]; rfl) (fun cg2 yt yo yb yr yl e0 hy => hF _ ?_)
  refine wl_pt_R (by omega) s1 s2 hG l5 l6 (by omega) hok hR (fun u pl t' o' r' p' a1 => ?_)
  exact h _ _ _ _ _ _ _ _ _ _ _ _ a1 (cg_back e0) hy
theorem cm_turn_R_P {f : (Nat → Int64) → Int64} {code : Nat → Int32} {len : Nat} {u pl : Nat → Int64} {Q : Int32 → Int32 → (Nat → Int32) → (Nat → Int32) → (Nat → Int32) → Int32 → Int32 → (Nat → Int64) → (Nat → Int64) → Int32 → (Nat → Int32) → (Nat → Int32) → (Nat → Int32) → (Nat → Int32) → Prop} (hN : 6000 ≤ N) (hA : AOk a) (hF : ∀ K : Prop, K → wp_X11_ruleInForce_R N rm rl inf K) (hL : cL t s m lb lv lr (a_l a)) (hG : cG (l_k (a_l a)) tn od bk br lp (a_g a)) (hr : rNow a = (some f)) (hR : cR N code len f) (hgo : l_t (a_l a) = 1 ∧ g_t (a_g a) < 999) (hnx : nx < 20) (han : an = jn (nx : Int)) (ham : am = jn (a_m a : Int)) (hc : cg nx = some 41)
    (h : ∀ tn od br lp u pl yt yo yb yr yl, cG (l_k (a_l a)) tn od bk br lp (tS (a_l a) (rNow a) (a_g a)) → cG (l_k (a_l a)) yt yo yb yr yl (a_g a) → Q (jn (tR (a_l a) (rNow a) (a_g a))) tn od br lp (jn (((nx + 1) % 20 : Nat) : Int)) (jn (kpN (a_m a) : Int)) u pl yt yo yb yr yl) : wp_X11_turn_R_P N rm rl t s m lv lr bk inf cg code len Q tn od br lp an am u pl yt yo yb yr yl := by
  obtain ⟨s1, s2, s3, s4, s5, s6⟩ := AOk_s hA
  have hk := s1.2.2.1
  obtain ⟨l1, l2, l3, l4, l5, l6⟩ := hL
  have hok := rNow_ok hA
  rw [hr] at hok h
  unfold wp_X11_turn_R_P
  rw [l1, l2, l3, show (jn (l_t (a_l a) : Int) = 0) = (l_t (a_l a) = 0) from by rw [li_0, jn_eq (by omega) (by omega)]; exact propext ⟨fun q => by omega, fun q => by omega⟩, show (tn < 999) = (g_t (a_g a) < 999) from by rw [hG.1, li_999, jn_lt (by omega) (by omega)]; exact propext ⟨fun q => by omega, fun q => by omega⟩]
  refine ⟨fun z => absurd z (by omega), fun z => ⟨fun z1 => ?_, fun z1 => absurd hgo.2 z1⟩⟩
  refine cl_keep_P hk hnx han hA.2.2.2.2.2.1 ham hG (by show (cg nx).map _ = _; rw [hc]; rfl) (fun yt yo yb yr yl hy => hF _ ?_)
  refine wl_pt_R (by omega) s1 s2 hG l5 l6 (by omega) hok hR (fun u pl t' o' r' p' a1 => ?_)
  exact h _ _ _ _ _ _ _ _ _ _ _ a1 hy
theorem cm_leap_0 {p q : Int32} {Q : Int32 → Prop} (hN : 20 ≤ N) (hA : AOk a) (hL : cL t s m lb lv lr (a_l a)) (hG : cG (l_k (a_l a)) tn od bk br lp (a_g a)) (hno : ∀ c, asC (l_k (a_l a)) p = some c → ¬ (0 < g_r (a_g a) c ∧ 1 ≤ q.toInt ∧ q.toInt ≤ ov (a_l a) (a_g a) c)) (h : Q (-1)) : wp_X11_leap_N_0 N s m lv od bk br Q p q := by
  obtain ⟨s1, s2, s3, s4, s5, s6⟩ := AOk_s hA
  have hk := s1.2.2.1
  obtain ⟨l1, l2, l3, l4, l5, l6⟩ := hL
  obtain ⟨y, rfl, hy⟩ := jn_of q
  rw [jn_toInt hy] at hno
  unfold wp_X11_leap_N_0 wp_X11_leap_N_0_13 wp_X11_leap_N_0_72
  rw [l2, l3]
  refine wl_isCh_N hk (fun _ => ⟨fun _ => h, fun q => absurd rfl q⟩) (fun c hc hs hx => ⟨fun q => absurd q (by decide), fun _ => ⟨fun z => ?_, fun _ => h⟩⟩)
  subst hx
  have hp : plc (a_l a) (a_g a) c < l_k (a_l a) := iv_lt s2.1 hc
  have hb := s2.2.2.1 c
  have b5 : ov (a_l a) (a_g a) c ≤ min (l_s (a_l a)) (plc (a_l a) (a_g a) c) := ovr_le
  rw [li_1, jn_le (by omega) hy] at z
  refine wl_placeOf hk (by omega) hG.2.1 s2.1 hp (by rw [show g_o (a_g a) (plc (a_l a) (a_g a) c) = c from iv_at s2.1 hc]) ⟨by simp (disch := omega) only [jn_le, jn_lt, jn_eq, jn_in, jn_add, jn_sub, jn_mul, jn_neg, li_0, li_1, li_2, li_3, li_4, li_5, li_6, li_7, li_8, li_9, li_10, li_11, li_12, li_13, li_14, li_15, li_16, li_17, li_18, li_20, li_24, li_29, li_30, li_31, li_32, li_37, li_39, li_40, li_42, li_43, li_45, li_46, li_47, li_48, li_53, li_57, li_59, li_60, li_61, li_62, li_63, li_80, li_81, li_91, li_93, li_97, li_100, li_122, li_200, li_255, li_256, li_257, li_258, li_259, li_260, li_300, li_314, li_400, li_580, li_999, li_5040, li_9999, li_65536, li_99999, li_7654321] <;> omega, ?_⟩
  rw [jn_cln (by omega), hG.2.2.2.1 c hc, li_1, jn_lt (by omega) (by omega)]
  refine ⟨fun _ => h, fun z1 => wl_overFrom hk s1.2.1 (by omega) hG.2.1 hG.2.2.1 l5 s2.1 s2.2.1 s1.2.2.2.2.2.1 hp rfl ⟨fun z2 => ?_, fun _ => h⟩⟩
  rw [show jn (ovr (l_s (s_l (a_s a))) (g_o (a_g a)) (g_b (a_g a)) (l_l (a_l a)) (plc (a_l a) (a_g a) c) : Int) = jn (ov (a_l a) (a_g a) c : Int) from rfl, jn_le hy (by omega)] at z2
  exact hno c hs ⟨by omega, by omega, by omega⟩
theorem cm_stoop_0 {p q : Int32} {Q : Int32 → Prop} (hA : AOk a) (hL : cL t s m lb lv lr (a_l a)) (hG : cG (l_k (a_l a)) tn od bk br lp (a_g a)) (hno : ∀ c, asC (l_k (a_l a)) p = some c → ¬ (1 ≤ q.toInt ∧ q.toInt ≤ 20 ∧ q.toInt ≠ g_b (a_g a) c)) (h : Q (-1)) : wp_X11_stoop_N_0 N m bk Q p q := by
  obtain ⟨s1, s2, s3, s4, s5, s6⟩ := AOk_s hA
  have hk := s1.2.2.1
  obtain ⟨y, rfl, hy⟩ := jn_of q
  rw [jn_toInt hy] at hno
  unfold wp_X11_stoop_N_0 wp_X11_stoop_N_0_35
  rw [hL.2.2.1]
  refine wl_isCh_N hk (fun _ => ⟨fun _ => h, fun q => absurd rfl q⟩) (fun c hc hs hx => ⟨fun q => absurd q (by decide), fun _ => ?_⟩)
  subst hx
  have hb := s2.2.1 c
  refine ⟨fun _ => h, fun z => ⟨fun _ => h, fun z1 => ⟨by simp (disch := omega) only [jn_le, jn_lt, jn_eq, jn_in, jn_add, jn_sub, jn_mul, jn_neg, li_0, li_1, li_2, li_3, li_4, li_5, li_6, li_7, li_8, li_9, li_10, li_11, li_12, li_13, li_14, li_15, li_16, li_17, li_18, li_20, li_24, li_29, li_30, li_31, li_32, li_37, li_39, li_40, li_42, li_43, li_45, li_46, li_47, li_48, li_53, li_57, li_59, li_60, li_61, li_62, li_63, li_80, li_81, li_91, li_93, li_97, li_100, li_122, li_200, li_255, li_256, li_257, li_258, li_259, li_260, li_300, li_314, li_400, li_580, li_999, li_5040, li_9999, li_65536, li_99999, li_7654321] <;> omega, fun _ => h, fun z2 => ?_⟩⟩⟩
  rw [li_1, jn_lt hy (by omega)] at z
  rw [li_20, jn_lt (by omega) hy] at z1
  rw [jn_cln (by omega), hG.2.2.1 c hc, jn_eq hy (by omega)] at z2
  exact hno c hs ⟨by omega, by omega, z2⟩
theorem cm_breath_0 {p q : Int32} {Q : Int32 → Prop} (hA : AOk a) (hL : cL t s m lb lv lr (a_l a)) (hno : ∀ c, asC (l_k (a_l a)) p = some c → ¬ (1 ≤ q.toInt ∧ q.toInt ≤ 9)) (h : Q (-1)) : wp_X11_breath_N_0 N m Q p q := by
  obtain ⟨s1, s2, s3, s4, s5, s6⟩ := AOk_s hA
  have hk := s1.2.2.1
  obtain ⟨y, rfl, hy⟩ := jn_of q
  rw [jn_toInt hy] at hno
  unfold wp_X11_breath_N_0 wp_X11_breath_N_0_19
  rw [hL.2.2.1]
  refine wl_isCh_N hk (fun _ => ⟨fun _ => h, fun q => absurd rfl q⟩) (fun c hc hs hx => ⟨fun q => absurd q (by decide), fun _ => ⟨fun _ => h, fun z => ⟨fun z1 => ?_, fun _ => h⟩⟩⟩)
  rw [li_1, jn_lt hy (by omega)] at z
  rw [li_9, jn_le hy (by omega)] at z1
  exact hno c hs ⟨by omega, by omega⟩
theorem cm_front_0 {p : Int32} {Q : Int32 → Prop} (hN : 20 ≤ N) (hA : AOk a) (hL : cL t s m lb lv lr (a_l a)) (hG : cG (l_k (a_l a)) tn od bk br lp (a_g a)) (hno : ∀ c, asC (l_k (a_l a)) p = some c → plc (a_l a) (a_g a) c = 0) (h : Q (-1)) : wp_X11_front_N_0 N m od Q p := by
  obtain ⟨s1, s2, s3, s4, s5, s6⟩ := AOk_s hA
  have hk := s1.2.2.1
  unfold wp_X11_front_N_0
  rw [hL.2.2.1]
  refine wl_isCh_N hk (fun _ => ⟨fun _ => h, fun q => absurd rfl q⟩) (fun c hc hs hx => ⟨fun q => absurd q (by decide), fun _ => ?_⟩)
  subst hx
  have hp : plc (a_l a) (a_g a) c < l_k (a_l a) := iv_lt s2.1 hc
  refine wl_placeOf hk (by omega) hG.2.1 s2.1 hp (by rw [show g_o (a_g a) (plc (a_l a) (a_g a) c) = c from iv_at s2.1 hc]) ?_
  rw [hno c hs]
  exact ⟨fun _ => h, fun q => absurd rfl q⟩
theorem cm_leap_A {p : Int32} {c b : Nat} {Q : Int32 → (Nat → Int32) → (Nat → Int32) → (Nat → Int32) → (Nat → Option Nat) → Int32 → Int32 → Int32 → (Nat → Int32) → (Nat → Int32) → (Nat → Int32) → (Nat → Int32) → Prop} (hN : 20 ≤ N) (hA : AOk a) (hL : cL t s m lb lv lr (a_l a)) (hG : cG (l_k (a_l a)) tn od bk br lp (a_g a)) (hs : asC (l_k (a_l a)) p = some c) (hgo : 0 < g_r (a_g a) c ∧ 1 ≤ b ∧ b ≤ ov (a_l a) (a_g a) c) (hnx : nx < 20) (han : an = jn (nx : Int)) (ham : am = jn (a_m a : Int)) (hc : cg nx = none)
    (h : ∀ od br lp cg2 yt yo yb yr yl, cG (l_k (a_l a)) tn od bk br lp (lpG (a_l a) (a_g a) c b) → cg2 = va_up cg nx (some 41) → cG (l_k (a_l a)) yt yo yb yr yl (a_g a) → Q (jn ((plc (a_l a) (a_g a) c - b : Nat) : Int)) od br lp cg2 (jn (((nx + 1) % 20 : Nat) : Int)) (jn (kpN (a_m a) : Int)) yt yo yb yr yl) : wp_X11_leap_N_A N s m lv tn bk Q p (jn (b : Int)) od br lp cg an am yt yo yb yr yl := by
  obtain ⟨s1, s2, s3, s4, s5, s6⟩ := AOk_s hA
  have hk := s1.2.2.1
  obtain ⟨l1, l2, l3, l4, l5, l6⟩ := hL
  have hl6 := s1.2.1
  unfold wp_X11_leap_N_A
  rw [l2, l3]
  refine wl_isCh_N hk (fun hno => by rw [hs] at hno; cases hno) (fun c' hcc hs' hx => ⟨fun q => absurd q (by decide), fun _ => ?_⟩)
  rw [hs] at hs'
  cases hs'
  subst hx
  have hp : plc (a_l a) (a_g a) c < l_k (a_l a) := iv_lt s2.1 hcc
  have hb := s2.2.2.1 c
  have b5 : ov (a_l a) (a_g a) c ≤ min (l_s (a_l a)) (plc (a_l a) (a_g a) c) := ovr_le
  have hoc : g_o (a_g a) (plc (a_l a) (a_g a) c) = c := iv_at s2.1 hcc
  refine ⟨fun _ => ?_, fun q => absurd (by rw [li_1, jn_le (by omega) (by omega)]; omega) q⟩
  refine wl_placeOf hk (by omega) hG.2.1 s2.1 hp (by rw [hoc]) ⟨by simp (disch := omega) only [jn_le, jn_lt, jn_eq, jn_in, jn_add, jn_sub, jn_mul, jn_neg, li_0, li_1, li_2, li_3, li_4, li_5, li_6, li_7, li_8, li_9, li_10, li_11, li_12, li_13, li_14, li_15, li_16, li_17, li_18, li_20, li_24, li_29, li_30, li_31, li_32, li_37, li_39, li_40, li_42, li_43, li_45, li_46, li_47, li_48, li_53, li_57, li_59, li_60, li_61, li_62, li_63, li_80, li_81, li_91, li_93, li_97, li_100, li_122, li_200, li_255, li_256, li_257, li_258, li_259, li_260, li_300, li_314, li_400, li_580, li_999, li_5040, li_9999, li_65536, li_99999, li_7654321] <;> omega, ?_⟩
  rw [jn_cln (by omega), hG.2.2.2.1 c hcc, li_1, jn_lt (by omega) (by omega)]
  refine ⟨fun z => absurd z (by omega), fun z1 => wl_overFrom hk s1.2.1 (by omega) hG.2.1 hG.2.2.1 l5 s2.1 s2.2.1 s1.2.2.2.2.2.1 hp rfl ?_⟩
  rw [show jn (ovr (l_s (s_l (a_s a))) (g_o (a_g a)) (g_b (a_g a)) (l_l (a_l a)) (plc (a_l a) (a_g a) c) : Int) = jn (ov (a_l a) (a_g a) c : Int) from rfl, jn_le (by omega) (by omega)]
  refine ⟨fun _ => ?_, fun q => absurd (by omega) q⟩
  refine cl_keep_A hk hnx han hA.2.2.2.2.2.1 ham hG (by show (cg nx).map _ = _; rw [hc]; rfl) (fun cg2 yt yo yb yr yl e0 hy => ?_)
  refine wl_leapFrom (p := plc (a_l a) (a_g a) c) (b := b) hk (by omega) hG.2.1 hG.2.2.2.1 hG.2.2.2.2 s2.1 s2.2.2.2 hp (by omega) (by rw [hoc]; exact hgo.1) rfl rfl (fun m' r' l' q1 q2 q3 => ?_)
  rw [hoc] at q2 q3
  rw [show jn (plc (a_l a) (a_g a) c : Int) - jn (b : Int) = jn ((plc (a_l a) (a_g a) c - b : Nat) : Int) from by rw [jn_sub]; exact congrArg jn (by omega)]
  exact h _ _ _ _ _ _ _ _ _ ⟨hG.1, q1, hG.2.2.1, q2, q3⟩ (cg_back e0) hy
theorem cm_stoop_A {p : Int32} {c b : Nat} {Q : Int32 → (Nat → Int32) → (Nat → Option Nat) → Int32 → Int32 → Int32 → (Nat → Int32) → (Nat → Int32) → (Nat → Int32) → (Nat → Int32) → Prop} (hA : AOk a) (hL : cL t s m lb lv lr (a_l a)) (hG : cG (l_k (a_l a)) tn od bk br lp (a_g a)) (hs : asC (l_k (a_l a)) p = some c) (hgo : 1 ≤ b ∧ b ≤ 20 ∧ b ≠ g_b (a_g a) c) (hnx : nx < 20) (han : an = jn (nx : Int)) (ham : am = jn (a_m a : Int)) (hc : cg nx = none)
    (h : ∀ bk cg2 yt yo yb yr yl, cG (l_k (a_l a)) tn od bk br lp (stG (a_g a) c b) → cg2 = va_up cg nx (some 41) → cG (l_k (a_l a)) yt yo yb yr yl (a_g a) → Q (jn (g_b (a_g a) c : Int)) bk cg2 (jn (((nx + 1) % 20 : Nat) : Int)) (jn (kpN (a_m a) : Int)) yt yo yb yr yl) : wp_X11_stoop_N_A N m tn od br lp Q p (jn (b : Int)) bk cg an am yt yo yb yr yl := by
  obtain ⟨s1, s2, s3, s4, s5, s6⟩ := AOk_s hA
  have hk := s1.2.2.1
  have hbb := s2.2.1 c
  unfold wp_X11_stoop_N_A
  rw [hL.2.2.1]
  refine wl_isCh_N hk (fun hno => by rw [hs] at hno; cases hno) (fun c' hcc hs' hx => ⟨fun q => absurd q (by decide), fun _ => ?_⟩)
  rw [hs] at hs'
  cases hs'
  subst hx
  refine ⟨fun q => absurd q (by rw [li_1, jn_lt (by omega) (by omega)]; omega), fun _ => ⟨fun q => absurd q (by rw [li_20, jn_lt (by omega) (by omega)]; omega), fun _ => ⟨by simp (disch := omega) only [jn_le, jn_lt, jn_eq, jn_in, jn_add, jn_sub, jn_mul, jn_neg, li_0, li_1, li_2, li_3, li_4, li_5, li_6, li_7, li_8, li_9, li_10, li_11, li_12, li_13, li_14, li_15, li_16, li_17, li_18, li_20, li_24, li_29, li_30, li_31, li_32, li_37, li_39, li_40, li_42, li_43, li_45, li_46, li_47, li_48, li_53, li_57, li_59, li_60, li_61, li_62, li_63, li_80, li_81, li_91, li_93, li_97, li_100, li_122, li_200, li_255, li_256, li_257, li_258, li_259, li_260, li_300, li_314, li_400, li_580, li_999, li_5040, li_9999, li_65536, li_99999, li_7654321] <;> omega, ?_⟩⟩⟩
  rw [jn_cln (by omega), hG.2.2.1 c hcc, jn_eq (by omega) (by omega)]
  refine ⟨fun q => absurd q (by omega), fun _ => ?_⟩
  refine cl_keep_A hk hnx han hA.2.2.2.2.2.1 ham hG (by show (cg nx).map _ = _; rw [hc]; rfl) (fun cg2 yt yo yb yr yl e0 hy => ⟨by simp (disch := omega) only [jn_le, jn_lt, jn_eq, jn_in, jn_add, jn_sub, jn_mul, jn_neg, li_0, li_1, li_2, li_3, li_4, li_5, li_6, li_7, li_8, li_9, li_10, li_11, li_12, li_13, li_14, li_15, li_16, li_17, li_18, li_20, li_24, li_29, li_30, li_31, li_32, li_37, li_39, li_40, li_42, li_43, li_45, li_46, li_47, li_48, li_53, li_57, li_59, li_60, li_61, li_62, li_63, li_80, li_81, li_91, li_93, li_97, li_100, li_122, li_200, li_255, li_256, li_257, li_258, li_259, li_260, li_300, li_314, li_400, li_580, li_999, li_5040, li_9999, li_65536, li_99999, li_7654321] <;> omega, fun x9 e9 => ⟨by simp (disch := omega) only [jn_le, jn_lt, jn_eq, jn_in, jn_add, jn_sub, jn_mul, jn_neg, li_0, li_1, li_2, li_3, li_4, li_5, li_6, li_7, li_8, li_9, li_10, li_11, li_12, li_13, li_14, li_15, li_16, li_17, li_18, li_20, li_24, li_29, li_30, li_31, li_32, li_37, li_39, li_40, li_42, li_43, li_45, li_46, li_47, li_48, li_53, li_57, li_59, li_60, li_61, li_62, li_63, li_80, li_81, li_91, li_93, li_97, li_100, li_122, li_200, li_255, li_256, li_257, li_258, li_259, li_260, li_300, li_314, li_400, li_580, li_999, li_5040, li_9999, li_65536, li_99999, li_7654321] <;> omega, fun a10 e10 => ?_⟩⟩)
  rw [e9]
  refine h _ _ _ _ _ _ _ ⟨hG.1, hG.2.1, ?_, hG.2.2.2.1, hG.2.2.2.2⟩ (cg_back e0) hy
  rw [e10]; exact ar_upd hG.2.2.1 rfl
theorem cm_breath_A {p : Int32} {c b : Nat} {Q : Int32 → (Nat → Int32) → (Nat → Option Nat) → Int32 → Int32 → Int32 → (Nat → Int32) → (Nat → Int32) → (Nat → Int32) → (Nat → Int32) → Prop} (hA : AOk a) (hL : cL t s m lb lv lr (a_l a)) (hG : cG (l_k (a_l a)) tn od bk br lp (a_g a)) (hs : asC (l_k (a_l a)) p = some c) (hgo : 1 ≤ b ∧ b ≤ 9) (hnx : nx < 20) (han : an = jn (nx : Int)) (ham : am = jn (a_m a : Int)) (hc : cg nx = none)
    (h : ∀ br cg2 yt yo yb yr yl, cG (l_k (a_l a)) tn od bk br lp (gvB (a_g a) c b) → cg2 = va_up cg nx (some 41) → cG (l_k (a_l a)) yt yo yb yr yl (a_g a) → Q (jn ((min 60 (g_r (a_g a) c + b) : Nat) : Int)) br cg2 (jn (((nx + 1) % 20 : Nat) : Int)) (jn (kpN (a_m a) : Int)) yt yo yb yr yl) : wp_X11_breath_N_A N m tn od bk lp Q p (jn (b : Int)) br cg an am yt yo yb yr yl := by
  obtain ⟨s1, s2, s3, s4, s5, s6⟩ := AOk_s hA
  have hk := s1.2.2.1
  unfold wp_X11_breath_N_A
  rw [hL.2.2.1]
  refine wl_isCh_N hk (fun hno => by rw [hs] at hno; cases hno) (fun c' hcc hs' hx => ⟨fun q => absurd q (by decide), fun _ => ?_⟩)
  rw [hs] at hs'
  cases hs'
  subst hx
  refine ⟨fun q => absurd q (by rw [li_1, jn_lt (by omega) (by omega)]; omega), fun _ => ⟨fun _ => ?_, fun q => absurd (by rw [li_9, jn_le (by omega) (by omega)]; omega) q⟩⟩
  refine cl_keep_A hk hnx han hA.2.2.2.2.2.1 ham hG (by show (cg nx).map _ = _; rw [hc]; rfl) (fun cg2 yt yo yb yr yl e0 hy => ?_)
  refine wl_giveBreath (b := b) hk hG.2.2.2.1 hcc hgo.2 (s2.2.2.1 c) rfl rfl (fun r' q1 => ⟨by simp (disch := omega) only [jn_le, jn_lt, jn_eq, jn_in, jn_add, jn_sub, jn_mul, jn_neg, li_0, li_1, li_2, li_3, li_4, li_5, li_6, li_7, li_8, li_9, li_10, li_11, li_12, li_13, li_14, li_15, li_16, li_17, li_18, li_20, li_24, li_29, li_30, li_31, li_32, li_37, li_39, li_40, li_42, li_43, li_45, li_46, li_47, li_48, li_53, li_57, li_59, li_60, li_61, li_62, li_63, li_80, li_81, li_91, li_93, li_97, li_100, li_122, li_200, li_255, li_256, li_257, li_258, li_259, li_260, li_300, li_314, li_400, li_580, li_999, li_5040, li_9999, li_65536, li_99999, li_7654321] <;> omega, ?_⟩)
  rw [jn_cln (by omega), q1 c hcc, un_at]
  exact h _ _ _ _ _ _ _ ⟨hG.1, hG.2.1, hG.2.2.1, q1, hG.2.2.2.2⟩ (cg_back e0) hy
theorem cm_front_A {p : Int32} {c : Nat} {Q : Int32 → (Nat → Int32) → (Nat → Option Nat) → Int32 → Int32 → Int32 → (Nat → Int32) → (Nat → Int32) → (Nat → Int32) → (Nat → Int32) → Prop} (hN : 20 ≤ N) (hA : AOk a) (hL : cL t s m lb lv lr (a_l a)) (hG : cG (l_k (a_l a)) tn od bk br lp (a_g a)) (hs : asC (l_k (a_l a)) p = some c) (hgo : plc (a_l a) (a_g a) c ≠ 0) (hnx : nx < 20) (han : an = jn (nx : Int)) (ham : am = jn (a_m a : Int)) (hc : cg nx = none)
    (h : ∀ od cg2 yt yo yb yr yl, cG (l_k (a_l a)) tn od bk br lp (frG (a_l a) (a_g a) c) → cg2 = va_up cg nx (some 41) → cG (l_k (a_l a)) yt yo yb yr yl (a_g a) → Q (jn (plc (a_l a) (a_g a) c : Int)) od cg2 (jn (((nx + 1) % 20 : Nat) : Int)) (jn (kpN (a_m a) : Int)) yt yo yb yr yl) : wp_X11_front_N_A N m tn bk br lp Q p od cg an am yt yo yb yr yl := by
  obtain ⟨s1, s2, s3, s4, s5, s6⟩ := AOk_s hA
  have hk := s1.2.2.1
  unfold wp_X11_front_N_A
  rw [hL.2.2.1]
  refine wl_isCh_N hk (fun hno => by rw [hs] at hno; cases hno) (fun c' hcc hs' hx => ⟨fun q => absurd q (by decide), fun _ => ?_⟩)
  rw [hs] at hs'
  cases hs'
  subst hx
  have hp : plc (a_l a) (a_g a) c < l_k (a_l a) := iv_lt s2.1 hcc
  refine wl_placeOf hk (by omega) hG.2.1 s2.1 hp (by rw [show g_o (a_g a) (plc (a_l a) (a_g a) c) = c from iv_at s2.1 hcc]) ?_
  refine ⟨fun q => absurd q (by rw [li_0, jn_eq (by omega) (by omega)]; omega), fun _ => ?_⟩
  refine cl_keep_A hk hnx han hA.2.2.2.2.2.1 ham hG (by show (cg nx).map _ = _; rw [hc]; rfl) (fun cg2 yt yo yb yr yl e0 hy => ?_)
  refine wl_moveAhead (p := plc (a_l a) (a_g a) c) (b := plc (a_l a) (a_g a) c) hk (by omega) hG.2.1 hp (Nat.le_refl _) rfl rfl (fun m' q1 => ?_)
  exact h _ _ _ _ _ _ _ ⟨hG.1, q1, hG.2.2.1, hG.2.2.2.1, hG.2.2.2.2⟩ (cg_back e0) hy
theorem cm_leap_P {p : Int32} {c b : Nat} {Q : Int32 → (Nat → Int32) → (Nat → Int32) → (Nat → Int32) → Int32 → Int32 → Int32 → (Nat → Int32) → (Nat → Int32) → (Nat → Int32) → (Nat → Int32) → Prop} (hN : 20 ≤ N) (hA : AOk a) (hL : cL t s m lb lv lr (a_l a)) (hG : cG (l_k (a_l a)) tn od bk br lp (a_g a)) (hs : asC (l_k (a_l a)) p = some c) (hgo : 0 < g_r (a_g a) c ∧ 1 ≤ b ∧ b ≤ ov (a_l a) (a_g a) c) (hnx : nx < 20) (han : an = jn (nx : Int)) (ham : am = jn (a_m a : Int)) (hc : cg nx = some 41)
    (h : ∀ od br lp yt yo yb yr yl, cG (l_k (a_l a)) tn od bk br lp (lpG (a_l a) (a_g a) c b) → cG (l_k (a_l a)) yt yo yb yr yl (a_g a) → Q (jn ((plc (a_l a) (a_g a) c - b : Nat) : Int)) od br lp (jn (((nx + 1) % 20 : Nat) : Int)) (jn (kpN (a_m a) : Int)) yt yo yb yr yl) : wp_X11_leap_N_P N s m lv tn bk cg Q p (jn (b : Int)) od br lp an am yt yo yb yr yl := by
  obtain ⟨s1, s2, s3, s4, s5, s6⟩ := AOk_s hA
  have hk := s1.2.2.1
  obtain ⟨l1, l2, l3, l4, l5, l6⟩ := hL
  have hl6 := s1.2.1
  unfold wp_X11_leap_N_P
  rw [l2, l3]
  refine wl_isCh_N hk (fun hno => by rw [hs] at hno; cases hno) (fun c' hcc hs' hx => ⟨fun q => absurd q (by decide), fun _ => ?_⟩)
  rw [hs] at hs'
  cases hs'
  subst hx
  have hp : plc (a_l a) (a_g a) c < l_k (a_l a) := iv_lt s2.1 hcc
  have hb := s2.2.2.1 c
  have b5 : ov (a_l a) (a_g a) c ≤ min (l_s (a_l a)) (plc (a_l a) (a_g a) c) := ovr_le
  have hoc : g_o (a_g a) (plc (a_l a) (a_g a) c) = c := iv_at s2.1 hcc
  refine ⟨fun _ => ?_, fun q => absurd (by rw [li_1, jn_le (by omega) (by omega)]; omega) q⟩
  refine wl_placeOf hk (by omega) hG.2.1 s2.1 hp (by rw [hoc]) ⟨by simp (disch := omega) only [jn_le, jn_lt, jn_eq, jn_in, jn_add, jn_sub, jn_mul, jn_neg, li_0, li_1, li_2, li_3, li_4, li_5, li_6, li_7, li_8, li_9, li_10, li_11, li_12, li_13, li_14, li_15, li_16, li_17, li_18, li_20, li_24, li_29, li_30, li_31, li_32, li_37, li_39, li_40, li_42, li_43, li_45, li_46, li_47, li_48, li_53, li_57, li_59, li_60, li_61, li_62, li_63, li_80, li_81, li_91, li_93, li_97, li_100, li_122, li_200, li_255, li_256, li_257, li_258, li_259, li_260, li_300, li_314, li_400, li_580, li_999, li_5040, li_9999, li_65536, li_99999, li_7654321] <;> omega, ?_⟩
  rw [jn_cln (by omega), hG.2.2.2.1 c hcc, li_1, jn_lt (by omega) (by omega)]
  refine ⟨fun z => absurd z (by omega), fun z1 => wl_overFrom hk s1.2.1 (by omega) hG.2.1 hG.2.2.1 l5 s2.1 s2.2.1 s1.2.2.2.2.2.1 hp rfl ?_⟩
  rw [show jn (ovr (l_s (s_l (a_s a))) (g_o (a_g a)) (g_b (a_g a)) (l_l (a_l a)) (plc (a_l a) (a_g a) c) : Int) = jn (ov (a_l a) (a_g a) c : Int) from rfl, jn_le (by omega) (by omega)]
  refine ⟨fun _ => ?_, fun q => absurd (by omega) q⟩
  refine cl_keep_P hk hnx han hA.2.2.2.2.2.1 ham hG (by show (cg nx).map _ = _; rw [hc]; rfl) (fun yt yo yb yr yl hy => ?_)
  refine wl_leapFrom (p := plc (a_l a) (a_g a) c) (b := b) hk (by omega) hG.2.1 hG.2.2.2.1 hG.2.2.2.2 s2.1 s2.2.2.2 hp (by omega) (by rw [hoc]; exact hgo.1) rfl rfl (fun m' r' l' q1 q2 q3 => ?_)
  rw [hoc] at q2 q3
  rw [show jn (plc (a_l a) (a_g a) c : Int) - jn (b : Int) = jn ((plc (a_l a) (a_g a) c - b : Nat) : Int) from by rw [jn_sub]; exact congrArg jn (by omega)]
  exact h _ _ _ _ _ _ _ _ ⟨hG.1, q1, hG.2.2.1, q2, q3⟩ hy
theorem cm_stoop_P {p : Int32} {c b : Nat} {Q : Int32 → (Nat → Int32) → Int32 → Int32 → Int32 → (Nat → Int32) → (Nat → Int32) → (Nat → Int32) → (Nat → Int32) → Prop} (hA : AOk a) (hL : cL t s m lb lv lr (a_l a)) (hG : cG (l_k (a_l a)) tn od bk br lp (a_g a)) (hs : asC (l_k (a_l a)) p = some c) (hgo : 1 ≤ b ∧ b ≤ 20 ∧ b ≠ g_b (a_g a) c) (hnx : nx < 20) (han : an = jn (nx : Int)) (ham : am = jn (a_m a : Int)) (hc : cg nx = some 41)
    (h : ∀ bk yt yo yb yr yl, cG (l_k (a_l a)) tn od bk br lp (stG (a_g a) c b) → cG (l_k (a_l a)) yt yo yb yr yl (a_g a) → Q (jn (g_b (a_g a) c : Int)) bk (jn (((nx + 1) % 20 : Nat) : Int)) (jn (kpN (a_m a) : Int)) yt yo yb yr yl) : wp_X11_stoop_N_P N m tn od br lp cg Q p (jn (b : Int)) bk an am yt yo yb yr yl := by
  obtain ⟨s1, s2, s3, s4, s5, s6⟩ := AOk_s hA
  have hk := s1.2.2.1
  have hbb := s2.2.1 c
  unfold wp_X11_stoop_N_P
  rw [hL.2.2.1]
  refine wl_isCh_N hk (fun hno => by rw [hs] at hno; cases hno) (fun c' hcc hs' hx => ⟨fun q => absurd q (by decide), fun _ => ?_⟩)
  rw [hs] at hs'
  cases hs'
  subst hx
  refine ⟨fun q => absurd q (by rw [li_1, jn_lt (by omega) (by omega)]; omega), fun _ => ⟨fun q => absurd q (by rw [li_20, jn_lt (by omega) (by omega)]; omega), fun _ => ⟨by simp (disch := omega) only [jn_le, jn_lt, jn_eq, jn_in, jn_add, jn_sub, jn_mul, jn_neg, li_0, li_1, li_2, li_3, li_4, li_5, li_6, li_7, li_8, li_9, li_10, li_11, li_12, li_13, li_14, li_15, li_16, li_17, li_18, li_20, li_24, li_29, li_30, li_31, li_32, li_37, li_39, li_40, li_42, li_43, li_45, li_46, li_47, li_48, li_53, li_57, li_59, li_60, li_61, li_62, li_63, li_80, li_81, li_91, li_93, li_97, li_100, li_122, li_200, li_255, li_256, li_257, li_258, li_259, li_260, li_300, li_314, li_400, li_580, li_999, li_5040, li_9999, li_65536, li_99999, li_7654321] <;> omega, ?_⟩⟩⟩
  rw [jn_cln (by omega), hG.2.2.1 c hcc, jn_eq (by omega) (by omega)]
  refine ⟨fun q => absurd q (by omega), fun _ => ?_⟩
  refine cl_keep_P hk hnx han hA.2.2.2.2.2.1 ham hG (by show (cg nx).map _ = _; rw [hc]; rfl) (fun yt yo yb yr yl hy => ⟨by simp (disch := omega) only [jn_le, jn_lt, jn_eq, jn_in, jn_add, jn_sub, jn_mul, jn_neg, li_0, li_1, li_2, li_3, li_4, li_5, li_6, li_7, li_8, li_9, li_10, li_11, li_12, li_13, li_14, li_15, li_16, li_17, li_18, li_20, li_24, li_29, li_30, li_31, li_32, li_37, li_39, li_40, li_42, li_43, li_45, li_46, li_47, li_48, li_53, li_57, li_59, li_60, li_61, li_62, li_63, li_80, li_81, li_91, li_93, li_97, li_100, li_122, li_200, li_255, li_256, li_257, li_258, li_259, li_260, li_300, li_314, li_400, li_580, li_999, li_5040, li_9999, li_65536, li_99999, li_7654321] <;> omega, fun x9 e9 => ⟨by simp (disch := omega) only [jn_le, jn_lt, jn_eq, jn_in, jn_add, jn_sub, jn_mul, jn_neg, li_0, li_1, li_2, li_3, li_4, li_5, li_6, li_7, li_8, li_9, li_10, li_11, li_12, li_13, li_14, li_15, li_16, li_17, li_18, li_20, li_24, li_29, li_30, li_31, li_32, li_37, li_39, li_40, li_42, li_43, li_45, li_46, li_47, li_48, li_53, li_57, li_59, li_60, li_61, li_62, li_63, li_80, li_81, li_91, li_93, li_97, li_100, li_122, li_200, li_255, li_256, li_257, li_258, li_259, li_260, li_300, li_314, li_400, li_580, li_999, li_5040, li_9999, li_65536, li_99999, li_7654321] <;> omega, fun a10 e10 => ?_⟩⟩)
  rw [e9]
  refine h _ _ _ _ _ _ ⟨hG.1, hG.2.1, ?_, hG.2.2.2.1, hG.2.2.2.2⟩ hy
  rw [e10]; exact ar_upd hG.2.2.1 rfl
theorem cm_breath_P {p : Int32} {c b : Nat} {Q : Int32 → (Nat → Int32) → Int32 → Int32 → Int32 → (Nat → Int32) → (Nat → Int32) → (Nat → Int32) → (Nat → Int32) → Prop} (hA : AOk a) (hL : cL t s m lb lv lr (a_l a)) (hG : cG (l_k (a_l a)) tn od bk br lp (a_g a)) (hs : asC (l_k (a_l a)) p = some c) (hgo : 1 ≤ b ∧ b ≤ 9) (hnx : nx < 20) (han : an = jn (nx : Int)) (ham : am = jn (a_m a : Int)) (hc : cg nx = some 41)
    (h : ∀ br yt yo yb yr yl, cG (l_k (a_l a)) tn od bk br lp (gvB (a_g a) c b) → cG (l_k (a_l a)) yt yo yb yr yl (a_g a) → Q (jn ((min 60 (g_r (a_g a) c + b) : Nat) : Int)) br (jn (((nx + 1) % 20 : Nat) : Int)) (jn (kpN (a_m a) : Int)) yt yo yb yr yl) : wp_X11_breath_N_P N m tn od bk lp cg Q p (jn (b : Int)) br an am yt yo yb yr yl := by
  obtain ⟨s1, s2, s3, s4, s5, s6⟩ := AOk_s hA
  have hk := s1.2.2.1
  unfold wp_X11_breath_N_P
  rw [hL.2.2.1]
  refine wl_isCh_N hk (fun hno => by rw [hs] at hno; cases hno) (fun c' hcc hs' hx => ⟨fun q => absurd q (by decide), fun _ => ?_⟩)
  rw [hs] at hs'
  cases hs'
  subst hx
  refine ⟨fun q => absurd q (by rw [li_1, jn_lt (by omega) (by omega)]; omega), fun _ => ⟨fun _ => ?_, fun q => absurd (by rw [li_9, jn_le (by omega) (by omega)]; omega) q⟩⟩
  refine cl_keep_P hk hnx han hA.2.2.2.2.2.1 ham hG (by show (cg nx).map _ = _; rw [hc]; rfl) (fun yt yo yb yr yl hy => ?_)
  refine wl_giveBreath (b := b) hk hG.2.2.2.1 hcc hgo.2 (s2.2.2.1 c) rfl rfl (fun r' q1 => ⟨by simp (disch := omega) only [jn_le, jn_lt, jn_eq, jn_in, jn_add, jn_sub, jn_mul, jn_neg, li_0, li_1, li_2, li_3, li_4, li_5, li_6, li_7, li_8, li_9, li_10, li_11, li_12, li_13, li_14, li_15, li_16, li_17, li_18, li_20, li_24, li_29, li_30, li_31, li_32, li_37, li_39, li_40, li_42, li_43, li_45, li_46, li_47, li_48, li_53, li_57, li_59, li_60, li_61, li_62, li_63, li_80, li_81, li_91, li_93, li_97, li_100, li_122, li_200, li_255, li_256, li_257, li_258, li_259, li_260, li_300, li_314, li_400, li_580, li_999, li_5040, li_9999, li_65536, li_99999, li_7654321] <;> omega, ?_⟩)
  rw [jn_cln (by omega), q1 c hcc, un_at]
  exact h _ _ _ _ _ _ ⟨hG.1, hG.2.1, hG.2.2.1, q1, hG.2.2.2.2⟩ hy
theorem cm_front_P {p : Int32} {c : Nat} {Q : Int32 → (Nat → Int32) → Int32 → Int32 → Int32 → (Nat → Int32) → (Nat → Int32) → (Nat → Int32) → (Nat → Int32) → Prop} (hN : 20 ≤ N) (hA : AOk a) (hL : cL t s m lb lv lr (a_l a)) (hG : cG (l_k (a_l a)) tn od bk br lp (a_g a)) (hs : asC (l_k (a_l a)) p = some c) (hgo : plc (a_l a) (a_g a) c ≠ 0) (hnx : nx < 20) (han : an = jn (nx : Int)) (ham : am = jn (a_m a : Int)) (hc : cg nx = some 41)
    (h : ∀ od yt yo yb yr yl, cG (l_k (a_l a)) tn od bk br lp (frG (a_l a) (a_g a) c) → cG (l_k (a_l a)) yt yo yb yr yl (a_g a) → Q (jn (plc (a_l a) (a_g a) c : Int)) od (jn (((nx + 1) % 20 : Nat) : Int)) (jn (kpN (a_m a) : Int)) yt yo yb yr yl) : wp_X11_front_N_P N m tn bk br lp cg Q p od an am yt yo yb yr yl := by
  obtain ⟨s1, s2, s3, s4, s5, s6⟩ := AOk_s hA
  have hk := s1.2.2.1
  unfold wp_X11_front_N_P
  rw [hL.2.2.1]
  refine wl_isCh_N hk (fun hno => by rw [hs] at hno; cases hno) (fun c' hcc hs' hx => ⟨fun q => absurd q (by decide), fun _ => ?_⟩)
  rw [hs] at hs'
  cases hs'
  subst hx
  have hp : plc (a_l a) (a_g a) c < l_k (a_l a) := iv_lt s2.1 hcc
  refine wl_placeOf hk (by omega) hG.2.1 s2.1 hp (by rw [show g_o (a_g a) (plc (a_l a) (a_g a) c) = c from iv_at s2.1 hcc]) ?_
  refine ⟨fun q => absurd q (by rw [li_0, jn_eq (by omega) (by omega)]; omega), fun _ => ?_⟩
  refine cl_keep_P hk hnx han hA.2.2.2.2.2.1 ham hG (by show (cg nx).map _ = _; rw [hc]; rfl) (fun yt yo yb yr yl hy => ?_)
  refine wl_moveAhead (p := plc (a_l a) (a_g a) c) (b := plc (a_l a) (a_g a) c) hk (by omega) hG.2.1 hp (Nat.le_refl _) rfl rfl (fun m' q1 => ?_)
  exact h _ _ _ _ _ _ ⟨hG.1, q1, hG.2.2.1, hG.2.2.2.1, hG.2.2.2.2⟩ hy
theorem cm_undo_0 {Q : Int32 → Prop} (ham : am = jn (a_m a : Int)) (h0 : a_m a = 0) (h : Q (-1)) : wp_X11_undo_N_0 N am Q := by
  unfold wp_X11_undo_N_0
  rw [ham, h0]
  exact ⟨fun _ => h, fun q => absurd rfl q⟩
theorem cm_undo_P {p : Nat} {g : gS} {Q : Int32 → Int32 → (Nat → Int32) → (Nat → Int32) → (Nat → Int32) → (Nat → Int32) → Int32 → Int32 → Prop} (hA : AOk a) (hnx : nx < 20) (han : an = jn (((nx + 1) % 20 : Nat) : Int)) (ham : am = jn (a_m a : Int)) (hm : a_m a = p + 1) (hc : cg nx = some 41) (hy : cG (l_k (a_l a)) yt yo yb yr yl g) (h : ∀ tn od bk br lp, cG (l_k (a_l a)) tn od bk br lp g → Q (jn (p : Int)) tn od bk br lp (jn (nx : Int)) (jn (p : Int))) : wp_X11_undo_N_P N cg yt yo yb yr yl Q tn od bk br lp an am := by
  have hk := (AOk_s hA).1.2.2.1
  have h20 := hA.2.2.2.2.2.1
  unfold wp_X11_undo_N_P wp_X4_giveBack wp_X4_giveBack_51
  rw [ham, hm]
  have e1 : an + 20 - 1 - (an + 20 - 1) / (20 : Int32) * (20 : Int32) = jn (nx : Int) := by
    rw [han, show jn (((nx + 1) % 20 : Nat) : Int) + 20 - 1 = jn (((nx + 1) % 20 + 19 : Nat) : Int) from by rw [li_20, li_1, jn_add, jn_sub]; exact congrArg jn (by omega)]
    rw [show jn (((nx + 1) % 20 + 19 : Nat) : Int) - jn (((nx + 1) % 20 + 19 : Nat) : Int) / (20 : Int32) * (20 : Int32) = jn ((((nx + 1) % 20 + 19) % 20 : Nat) : Int) from jn_modN (k := 20) (by omega) (by decide) (by decide)]
    exact congrArg jn (by omega)
  rw [e1, jn_cln (by omega), show jn ((p + 1 : Nat) : Int) - 1 = jn (p : Int) from by (first | rfl | (simp (disch := omega) only [jn_add, jn_sub, jn_mul, jn_neg, li_0, li_1, li_2, li_3, li_4, li_5, li_6, li_7, li_8, li_9, li_10, li_11, li_12, li_13, li_14, li_15, li_16, li_17, li_18, li_20, li_24, li_29, li_30, li_31, li_32, li_37, li_39, li_40, li_42, li_43, li_45, li_46, li_47, li_48, li_53, li_57, li_59, li_60, li_61, li_62, li_63, li_80, li_81, li_91, li_93, li_97, li_100, li_122, li_200, li_255, li_256, li_257, li_258, li_259, li_260, li_300, li_314, li_400, li_580, li_999, li_5040, li_9999, li_65536, li_99999, li_7654321] <;> first | rfl | exact congrArg jn (by omega)) | exact congrArg jn (by omega))]
  refine ⟨fun q => absurd q (by rw [li_0, jn_eq (by omega) (by omega)]; omega), fun _ => ⟨by decide, by simp (disch := omega) only [jn_le, jn_lt, jn_eq, jn_in, jn_add, jn_sub, jn_mul, jn_neg, li_0, li_1, li_2, li_3, li_4, li_5, li_6, li_7, li_8, li_9, li_10, li_11, li_12, li_13, li_14, li_15, li_16, li_17, li_18, li_20, li_24, li_29, li_30, li_31, li_32, li_37, li_39, li_40, li_42, li_43, li_45, li_46, li_47, li_48, li_53, li_57, li_59, li_60, li_61, li_62, li_63, li_80, li_81, li_91, li_93, li_97, li_100, li_122, li_200, li_255, li_256, li_257, li_258, li_259, li_260, li_300, li_314, li_400, li_580, li_999, li_5040, li_9999, li_65536, li_99999, li_7654321] <;> omega, by show (cg nx).map _ = _; rw [hc]; rfl, by simp (disch := omega) only [jn_le, jn_lt, jn_eq, jn_in, jn_add, jn_sub, jn_mul, jn_neg, li_0, li_1, li_2, li_3, li_4, li_5, li_6, li_7, li_8, li_9, li_10, li_11, li_12, li_13, li_14, li_15, li_16, li_17, li_18, li_20, li_24, li_29, li_30, li_31, li_32, li_37, li_39, li_40, li_42, li_43, li_45, li_46, li_47, li_48, li_53, li_57, li_59, li_60, li_61, li_62, li_63, li_80, li_81, li_91, li_93, li_97, li_100, li_122, li_200, li_255, li_256, li_257, li_258, li_259, li_260, li_300, li_314, li_400, li_580, li_999, li_5040, li_9999, li_65536, li_99999, li_7654321] <;> omega, by show (cg nx).map _ = _; rw [hc]; rfl, wl_takeG (fun o b r l f1 f2 f3 f4 => ?_)⟩⟩
  exact h _ _ _ _ _ (cG_of hk hy f1 f2 f3 f4)
end CAC
