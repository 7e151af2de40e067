/-! acts, images: the reference -/
/-- how it was ahead of the i-th act -/
def mP (k : Nat) (ws : Nat → Int32) (i : Nat) (g : gS) : Prop := ∃ sd : Nat → Int32, (∀ j, j < 29 → ws (29 * i + j) = sd (10 + j)) ∧ mG k sd g
def mPs (k pm : Nat) (P : Nat → gS) (ws : Nat → Int32) : Prop := ∀ i, i < pm → mP k ws i (P i)
def kpN (pm : Nat) : Nat := min 20 (pm + 1)
def kpP (pm : Nat) (P : Nat → gS) (g : gS) : Nat → gS := if pm = 20 then (fun i => if i = 19 then g else P (i + 1)) else (fun i => if i = pm then g else P i)
theorem kpP_all {Z : gS → Prop} {pm : Nat} {P : Nat → gS} {g : gS} (hpm : pm ≤ 20) (h : ∀ i, i < pm → Z (P i)) (hg : Z g) : ∀ i, i < kpN pm → Z (kpP pm P g i) := by
  intro i hi
  unfold kpN at hi
  unfold kpP
  split
  · dsimp only
    split
    · exact hg
    · exact h _ (by omega)
  · dsimp only
    split
    · exact hg
    · exact h _ (by omega)
section MAC
variable {N pm : Nat} {l : lS} {g : gS} {r : rS} {P : Nat → gS} {sg cl cs sd ws : Nat → Int32} {fc tp ud : Int32} {st wd : Nat → Int64}
theorem wm_keepsAct {k : Nat} {Q : (Nat → Int32) → Int32 → Prop} (hN : 700 ≤ N) (hpm : pm ≤ 20) (hud : ud = jn (pm : Int)) (hG : mG k sd g) (hP : mPs k pm P ws) (h : ∀ ws', mPs k (kpN pm) (kpP pm P g) ws' → Q ws' (jn (kpN pm : Int))) : wp_X12_keepsAct N sd Q ws ud := by
  subst hud
  have copy : ∀ (u : Nat) (ws0 : Nat → Int32), u < 20 → kpN pm = u + 1 → (∀ i, i < u → mP k ws0 i (kpP pm P g i)) → kpP pm P g u = g → wp_X12_keepsAct_52 N sd Q N 0 ws0 (jn (u : Int)) := by
    intro u ws0 hu hku hall hlast
    have key : ∀ (n j : Nat) (v1 : Int32) (ws' : Nat → Int32), v1 = jn (j : Int) → j ≤ 29 → (∀ q, q < j → ws' (29 * u + q) = sd (10 + q)) → (∀ q, q < 29 * u → ws' q = ws0 q) → 29 < n + j → wp_X12_keepsAct_52 N sd Q n v1 ws' (jn (u : Int)) := by
      intro n
      induction n with
      | zero => intro j v1 ws' _ h1 _ _ h2; omega
      | succ n ih =>
        intro j v1 ws' e hj ha hb hn
        subst e
        unfold wp_X12_keepsAct_52
        refine ⟨fun z => ?_, fun z => ?_⟩
        · simp (disch := omega) only [jn_le, jn_lt, jn_eq, jn_in, jn_add, jn_sub, jn_mul, jn_neg, li_0, li_1, li_2, li_3, li_4, li_5, li_6, li_7, li_8, li_9, li_10, li_11, li_12, li_13, li_14, li_15, li_16, li_17, li_18, li_20, li_24, li_29, li_30, li_31, li_32, li_37, li_39, li_40, li_42, li_43, li_45, li_46, li_47, li_48, li_53, li_57, li_59, li_60, li_61, li_62, li_63, li_80, li_81, li_91, li_93, li_97, li_100, li_122, li_200, li_255, li_256, li_257, li_258, li_259, li_260, li_300, li_314, li_400, li_580, li_999, li_5040, li_9999, li_65536, li_99999, li_7654321] at z
          have e : j = 29 := by omega
          subst e
          rw [show jn (u : Int) + 1 = jn (kpN pm : Int) from by rw [hku]; exact by (first | rfl | (simp (disch := omega) only [jn_add, jn_sub, jn_mul, jn_neg, li_0, li_1, li_2, li_3, li_4, li_5, li_6, li_7, li_8, li_9, li_10, li_11, li_12, li_13, li_14, li_15, li_16, li_17, li_18, li_20, li_24, li_29, li_30, li_31, li_32, li_37, li_39, li_40, li_42, li_43, li_45, li_46, li_47, li_48, li_53, li_57, li_59, li_60, li_61, li_62, li_63, li_80, li_81, li_91, li_93, li_97, li_100, li_122, li_200, li_255, li_256, li_257, li_258, li_259, li_260, li_300, li_314, li_400, li_580, li_999, li_5040, li_9999, li_65536, li_99999, li_7654321] <;> first | rfl | exact congrArg jn (by omega)) | exact congrArg jn (by omega))]
          refine h ws' (fun i hi => ?_)
          by_cases q : i = u
          · subst q
            rw [hlast]
            exact ⟨sd, ha, hG⟩
          · obtain ⟨sd', s1, s2⟩ := hall i (by omega)
            exact ⟨sd', fun q hq => by rw [hb _ (by omega)]; exact s1 q hq, s2⟩
        · simp (disch := omega) only [jn_le, jn_lt, jn_eq, jn_in, jn_add, jn_sub, jn_mul, jn_neg, li_0, li_1, li_2, li_3, li_4, li_5, li_6, li_7, li_8, li_9, li_10, li_11, li_12, li_13, li_14, li_15, li_16, li_17, li_18, li_20, li_24, li_29, li_30, li_31, li_32, li_37, li_39, li_40, li_42, li_43, li_45, li_46, li_47, li_48, li_53, li_57, li_59, li_60, li_61, li_62, li_63, li_80, li_81, li_91, li_93, li_97, li_100, li_122, li_200, li_255, li_256, li_257, li_258, li_259, li_260, li_300, li_314, li_400, li_580, li_999, li_5040, li_9999, li_65536, li_99999, li_7654321] at z
          rw [show (10 : Int32) + jn (j : Int) = jn ((10 + j : Nat) : Int) from by (first | rfl | (simp (disch := omega) only [jn_add, jn_sub, jn_mul, jn_neg, li_0, li_1, li_2, li_3, li_4, li_5, li_6, li_7, li_8, li_9, li_10, li_11, li_12, li_13, li_14, li_15, li_16, li_17, li_18, li_20, li_24, li_29, li_30, li_31, li_32, li_37, li_39, li_40, li_42, li_43, li_45, li_46, li_47, li_48, li_53, li_57, li_59, li_60, li_61, li_62, li_63, li_80, li_81, li_91, li_93, li_97, li_100, li_122, li_200, li_255, li_256, li_257, li_258, li_259, li_260, li_300, li_314, li_400, li_580, li_999, li_5040, li_9999, li_65536, li_99999, li_7654321] <;> first | rfl | exact congrArg jn (by omega)) | exact congrArg jn (by omega)), show (29 : Int32) * jn (u : Int) + jn (j : Int) = jn ((29 * u + j : Nat) : Int) from by (first | rfl | (simp (disch := omega) only [jn_add, jn_sub, jn_mul, jn_neg, li_0, li_1, li_2, li_3, li_4, li_5, li_6, li_7, li_8, li_9, li_10, li_11, li_12, li_13, li_14, li_15, li_16, li_17, li_18, li_20, li_24, li_29, li_30, li_31, li_32, li_37, li_39, li_40, li_42, li_43, li_45, li_46, li_47, li_48, li_53, li_57, li_59, li_60, li_61, li_62, li_63, li_80, li_81, li_91, li_93, li_97, li_100, li_122, li_200, li_255, li_256, li_257, li_258, li_259, li_260, li_300, li_314, li_400, li_580, li_999, li_5040, li_9999, li_65536, li_99999, li_7654321] <;> first | rfl | exact congrArg jn (by omega)) | exact congrArg jn (by omega)), jn_cln (by omega), jn_cln (by omega)]
          refine ⟨by simp (disch := omega) only [jn_le, jn_lt, jn_eq, jn_in, jn_add, jn_sub, jn_mul, jn_neg, li_0, li_1, li_2, li_3, li_4, li_5, li_6, li_7, li_8, li_9, li_10, li_11, li_12, li_13, li_14, li_15, li_16, li_17, li_18, li_20, li_24, li_29, li_30, li_31, li_32, li_37, li_39, li_40, li_42, li_43, li_45, li_46, li_47, li_48, li_53, li_57, li_59, li_60, li_61, li_62, li_63, li_80, li_81, li_91, li_93, li_97, li_100, li_122, li_200, li_255, li_256, li_257, li_258, li_259, li_260, li_300, li_314, li_400, li_580, li_999, li_5040, li_9999, li_65536, li_99999, li_7654321] <;> omega, by simp (disch := omega) only [jn_le, jn_lt, jn_eq, jn_in, jn_add, jn_sub, jn_mul, jn_neg, li_0, li_1, li_2, li_3, li_4, li_5, li_6, li_7, li_8, li_9, li_10, li_11, li_12, li_13, li_14, li_15, li_16, li_17, li_18, li_20, li_24, li_29, li_30, li_31, li_32, li_37, li_39, li_40, li_42, li_43, li_45, li_46, li_47, li_48, li_53, li_57, li_59, li_60, li_61, li_62, li_63, li_80, li_81, li_91, li_93, li_97, li_100, li_122, li_200, li_255, li_256, li_257, li_258, li_259, li_260, li_300, li_314, li_400, li_580, li_999, li_5040, li_9999, li_65536, li_99999, li_7654321] <;> omega, fun a2 e2 => ih (j + 1) _ a2 (by (first | rfl | (simp (disch := omega) only [jn_add, jn_sub, jn_mul, jn_neg, li_0, li_1, li_2, li_3, li_4, li_5, li_6, li_7, li_8, li_9, li_10, li_11, li_12, li_13, li_14, li_15, li_16, li_17, li_18, li_20, li_24, li_29, li_30, li_31, li_32, li_37, li_39, li_40, li_42, li_43, li_45, li_46, li_47, li_48, li_53, li_57, li_59, li_60, li_61, li_62, li_63, li_80, li_81, li_91, li_93, li_97, li_100, li_122, li_200, li_255, li_256, li_257, li_258, li_259, li_260, li_300, li_314, li_400, li_580, li_999, li_5040, li_9999, li_65536, li_99999, li_7654321] <;> first | rfl | exact congrArg jn (by omega)) | exact congrArg jn (by omega))) (by omega) (fun q hq => ?_) (fun q hq => ?_) (by omega)⟩
          · by_cases e : q = j
            · rw [e2, e, upd_at]
            · rw [e2, upd_ne (by omega)]; exact ha q (by omega)
          · rw [e2, upd_ne (by omega)]; exact hb q hq
    exact key N 0 _ ws0 rfl (by omega) (fun q hq => by omega) (fun q _ => rfl) (by omega)
  unfold wp_X12_keepsAct wp_X12_keepsAct_50
  rw [li_20, jn_eq (by omega) (by omega)]
  refine ⟨fun z => ?_, fun z => ?_⟩
  · have e : pm = 20 := by omega
    subst e
    have key : ∀ (n j : Nat) (v1 : Int32) (ws' : Nat → Int32), v1 = jn (j : Int) → 29 ≤ j → j ≤ 580 → (∀ q, q + 29 < j → ws' q = ws (q + 29)) → (∀ q, j ≤ q + 29 → ws' q = ws q) → 580 < n + j → wp_X12_keepsAct_12 N sd (wp_X12_keepsAct_50 N sd Q) Q n v1 ws' (jn (20 : Int)) := by
      intro n
      induction n with
      | zero => intro j v1 ws' _ _ h1 _ _ h2; omega
      | succ n ih =>
        intro j v1 ws' e hj0 hj ha hb hn
        subst e
        unfold wp_X12_keepsAct_12 wp_X12_keepsAct_50
        refine ⟨fun z => ?_, fun z => ?_⟩
        · simp (disch := omega) only [jn_le, jn_lt, jn_eq, jn_in, jn_add, jn_sub, jn_mul, jn_neg, li_0, li_1, li_2, li_3, li_4, li_5, li_6, li_7, li_8, li_9, li_10, li_11, li_12, li_13, li_14, li_15, li_16, li_17, li_18, li_20, li_24, li_29, li_30, li_31, li_32, li_37, li_39, li_40, li_42, li_43, li_45, li_46, li_47, li_48, li_53, li_57, li_59, li_60, li_61, li_62, li_63, li_80, li_81, li_91, li_93, li_97, li_100, li_122, li_200, li_255, li_256, li_257, li_258, li_259, li_260, li_300, li_314, li_400, li_580, li_999, li_5040, li_9999, li_65536, li_99999, li_7654321] at z
          have e : j = 580 := by omega
          subst e
          rw [show jn (20 : Int) - 1 = jn ((19 : Nat) : Int) from by (first | rfl | (simp (disch := omega) only [jn_add, jn_sub, jn_mul, jn_neg, li_0, li_1, li_2, li_3, li_4, li_5, li_6, li_7, li_8, li_9, li_10, li_11, li_12, li_13, li_14, li_15, li_16, li_17, li_18, li_20, li_24, li_29, li_30, li_31, li_32, li_37, li_39, li_40, li_42, li_43, li_45, li_46, li_47, li_48, li_53, li_57, li_59, li_60, li_61, li_62, li_63, li_80, li_81, li_91, li_93, li_97, li_100, li_122, li_200, li_255, li_256, li_257, li_258, li_259, li_260, li_300, li_314, li_400, li_580, li_999, li_5040, li_9999, li_65536, li_99999, li_7654321] <;> first | rfl | exact congrArg jn (by omega)) | exact congrArg jn (by omega))]
          refine copy 19 ws' (by omega) rfl (fun i hi => ?_) ?_
          · obtain ⟨sd', s1, s2⟩ := hP (i + 1) (by omega)
            refine ⟨sd', fun q hq => ?_, ?_⟩
            · rw [ha _ (by omega), show 29 * i + q + 29 = 29 * (i + 1) + q by omega]; exact s1 q hq
            · unfold kpP; rw [if_pos rfl, if_neg (by omega)]; exact s2
          · unfold kpP; rw [if_pos rfl, if_pos rfl]
        · simp (disch := omega) only [jn_le, jn_lt, jn_eq, jn_in, jn_add, jn_sub, jn_mul, jn_neg, li_0, li_1, li_2, li_3, li_4, li_5, li_6, li_7, li_8, li_9, li_10, li_11, li_12, li_13, li_14, li_15, li_16, li_17, li_18, li_20, li_24, li_29, li_30, li_31, li_32, li_37, li_39, li_40, li_42, li_43, li_45, li_46, li_47, li_48, li_53, li_57, li_59, li_60, li_61, li_62, li_63, li_80, li_81, li_91, li_93, li_97, li_100, li_122, li_200, li_255, li_256, li_257, li_258, li_259, li_260, li_300, li_314, li_400, li_580, li_999, li_5040, li_9999, li_65536, li_99999, li_7654321] at z
          rw [show jn (j : Int) - 29 = jn ((j - 29 : Nat) : Int) from by rw [li_29, jn_sub]; exact congrArg jn (by omega), jn_cln (by omega), jn_cln (by omega)]
          refine ⟨by simp (disch := omega) only [jn_le, jn_lt, jn_eq, jn_in, jn_add, jn_sub, jn_mul, jn_neg, li_0, li_1, li_2, li_3, li_4, li_5, li_6, li_7, li_8, li_9, li_10, li_11, li_12, li_13, li_14, li_15, li_16, li_17, li_18, li_20, li_24, li_29, li_30, li_31, li_32, li_37, li_39, li_40, li_42, li_43, li_45, li_46, li_47, li_48, li_53, li_57, li_59, li_60, li_61, li_62, li_63, li_80, li_81, li_91, li_93, li_97, li_100, li_122, li_200, li_255, li_256, li_257, li_258, li_259, li_260, li_300, li_314, li_400, li_580, li_999, li_5040, li_9999, li_65536, li_99999, li_7654321] <;> omega, by simp (disch := omega) only [jn_le, jn_lt, jn_eq, jn_in, jn_add, jn_sub, jn_mul, jn_neg, li_0, li_1, li_2, li_3, li_4, li_5, li_6, li_7, li_8, li_9, li_10, li_11, li_12, li_13, li_14, li_15, li_16, li_17, li_18, li_20, li_24, li_29, li_30, li_31, li_32, li_37, li_39, li_40, li_42, li_43, li_45, li_46, li_47, li_48, li_53, li_57, li_59, li_60, li_61, li_62, li_63, li_80, li_81, li_91, li_93, li_97, li_100, li_122, li_200, li_255, li_256, li_257, li_258, li_259, li_260, li_300, li_314, li_400, li_580, li_999, li_5040, li_9999, li_65536, li_99999, li_7654321] <;> omega, fun a1 e1 => ih (j + 1) _ a1 (by (first | rfl | (simp (disch := omega) only [jn_add, jn_sub, jn_mul, jn_neg, li_0, li_1, li_2, li_3, li_4, li_5, li_6, li_7, li_8, li_9, li_10, li_11, li_12, li_13, li_14, li_15, li_16, li_17, li_18, li_20, li_24, li_29, li_30, li_31, li_32, li_37, li_39, li_40, li_42, li_43, li_45, li_46, li_47, li_48, li_53, li_57, li_59, li_60, li_61, li_62, li_63, li_80, li_81, li_91, li_93, li_97, li_100, li_122, li_200, li_255, li_256, li_257, li_258, li_259, li_260, li_300, li_314, li_400, li_580, li_999, li_5040, li_9999, li_65536, li_99999, li_7654321] <;> first | rfl | exact congrArg jn (by omega)) | exact congrArg jn (by omega))) (by omega) (by omega) (fun q hq => ?_) (fun q hq => ?_) (by omega)⟩
          · by_cases e : q = j - 29
            · rw [e1, e, upd_at, hb _ (by omega), show j - 29 + 29 = j by omega]
            · rw [e1, upd_ne e]; exact ha q (by omega)
          · rw [e1, upd_ne (by omega)]; exact hb q (by omega)
    exact key N 29 _ ws rfl (by omega) (by omega) (fun q hq => by omega) (fun q _ => rfl) (by omega)
  · refine copy pm ws (by omega) (by unfold kpN; omega) (fun i hi => ?_) ?_
    · unfold kpP; rw [if_neg (by omega), if_neg (by omega)]; exact hP i hi
    · unfold kpP; rw [if_neg (by omega), if_pos rfl]
theorem wm_undo {k : Nat} {Q : Int32 → (Nat → Int32) → Int32 → Prop} (hN : 40 ≤ N) (hpm : pm ≤ 20) (hud : ud = jn (pm : Int)) (hP : mPs k pm P ws) (hk : k ≤ 7) (hO : ∀ p, pm = p + 1 → ∀ c, c < k → g_o (P p) c < 7) (h0 : pm = 0 → Q (-1) sd ud) (h1 : ∀ p, pm = p + 1 → ∀ sd', mG k sd' (P p) → mF 7 sd sd' → Q (jn (p : Int)) sd' (jn (p : Int))) : wp_X12_undo N ws Q sd ud := by
  unfold wp_X12_undo
  subst hud
  rw [show (jn (pm : Int) = 0) = (pm = 0) from by rw [li_0, jn_eq (by omega) (by omega)]; exact propext ⟨fun q => by omega, fun q => by omega⟩]
  refine ⟨h0, fun z => ?_⟩
  obtain ⟨p, rfl⟩ : ∃ p, pm = p + 1 := ⟨pm - 1, by omega⟩
  rw [show jn ((p + 1 : Nat) : Int) - 1 = jn (p : Int) from by (first | rfl | (simp (disch := omega) only [jn_add, jn_sub, jn_mul, jn_neg, li_0, li_1, li_2, li_3, li_4, li_5, li_6, li_7, li_8, li_9, li_10, li_11, li_12, li_13, li_14, li_15, li_16, li_17, li_18, li_20, li_24, li_29, li_30, li_31, li_32, li_37, li_39, li_40, li_42, li_43, li_45, li_46, li_47, li_48, li_53, li_57, li_59, li_60, li_61, li_62, li_63, li_80, li_81, li_91, li_93, li_97, li_100, li_122, li_200, li_255, li_256, li_257, li_258, li_259, li_260, li_300, li_314, li_400, li_580, li_999, li_5040, li_9999, li_65536, li_99999, li_7654321] <;> first | rfl | exact congrArg jn (by omega)) | exact congrArg jn (by omega))]
  obtain ⟨sd0, s1, s2⟩ := hP p (by omega)
  have key : ∀ (n j : Nat) (v1 : Int32) (sd' : Nat → Int32), v1 = jn (j : Int) → j ≤ 29 → (∀ q, q < j → sd' (10 + q) = sd0 (10 + q)) → (∀ q, ¬ (10 ≤ q ∧ q < 39) → sd' q = sd q) → 29 < n + j → wp_X12_undo_21 N ws Q n v1 sd' (jn (p : Int)) := by
    intro n
    induction n with
    | zero => intro j v1 sd' _ h1 _ _ h2; omega
    | succ n ih =>
      intro j v1 sd' e hj ha hb hn
      subst e
      unfold wp_X12_undo_21
      refine ⟨fun z => ?_, fun z => ?_⟩
      · simp (disch := omega) only [jn_le, jn_lt, jn_eq, jn_in, jn_add, jn_sub, jn_mul, jn_neg, li_0, li_1, li_2, li_3, li_4, li_5, li_6, li_7, li_8, li_9, li_10, li_11, li_12, li_13, li_14, li_15, li_16, li_17, li_18, li_20, li_24, li_29, li_30, li_31, li_32, li_37, li_39, li_40, li_42, li_43, li_45, li_46, li_47, li_48, li_53, li_57, li_59, li_60, li_61, li_62, li_63, li_80, li_81, li_91, li_93, li_97, li_100, li_122, li_200, li_255, li_256, li_257, li_258, li_259, li_260, li_300, li_314, li_400, li_580, li_999, li_5040, li_9999, li_65536, li_99999, li_7654321] at z
        have ha' : ∀ q, 10 ≤ q → q < 39 → sd' q = sd0 q := fun q q1 q2 => by
          have := ha (q - 10) (by omega)
          rwa [show 10 + (q - 10) = q by omega] at this
        refine h1 p rfl sd' ⟨?_, fun c hc => ?_, fun c hc => ?_, fun c hc => ?_, fun c hc => ?_⟩ (fun q hq => hb q (by omega))
        · rw [ha' 10 (by omega) (by omega)]; exact s2.1
        · rw [ha' _ (by omega) (by omega)]; exact s2.2.1 c hc
        · rw [ha' _ (by omega) (by omega)]; exact s2.2.2.1 c hc
        · by_cases q : g_o (P p) c < 7
          · rw [ha' _ (by omega) (by omega)]; exact s2.2.2.2.1 c hc
          · exact False.elim (q (hO p rfl c hc))
        · rw [ha' _ (by omega) (by omega)]; exact s2.2.2.2.2 c hc
      · simp (disch := omega) only [jn_le, jn_lt, jn_eq, jn_in, jn_add, jn_sub, jn_mul, jn_neg, li_0, li_1, li_2, li_3, li_4, li_5, li_6, li_7, li_8, li_9, li_10, li_11, li_12, li_13, li_14, li_15, li_16, li_17, li_18, li_20, li_24, li_29, li_30, li_31, li_32, li_37, li_39, li_40, li_42, li_43, li_45, li_46, li_47, li_48, li_53, li_57, li_59, li_60, li_61, li_62, li_63, li_80, li_81, li_91, li_93, li_97, li_100, li_122, li_200, li_255, li_256, li_257, li_258, li_259, li_260, li_300, li_314, li_400, li_580, li_999, li_5040, li_9999, li_65536, li_99999, li_7654321] at z
        rw [show (10 : Int32) + jn (j : Int) = jn ((10 + j : Nat) : Int) from by (first | rfl | (simp (disch := omega) only [jn_add, jn_sub, jn_mul, jn_neg, li_0, li_1, li_2, li_3, li_4, li_5, li_6, li_7, li_8, li_9, li_10, li_11, li_12, li_13, li_14, li_15, li_16, li_17, li_18, li_20, li_24, li_29, li_30, li_31, li_32, li_37, li_39, li_40, li_42, li_43, li_45, li_46, li_47, li_48, li_53, li_57, li_59, li_60, li_61, li_62, li_63, li_80, li_81, li_91, li_93, li_97, li_100, li_122, li_200, li_255, li_256, li_257, li_258, li_259, li_260, li_300, li_314, li_400, li_580, li_999, li_5040, li_9999, li_65536, li_99999, li_7654321] <;> first | rfl | exact congrArg jn (by omega)) | exact congrArg jn (by omega)), show (29 : Int32) * jn (p : Int) + jn (j : Int) = jn ((29 * p + j : Nat) : Int) from by (first | rfl | (simp (disch := omega) only [jn_add, jn_sub, jn_mul, jn_neg, li_0, li_1, li_2, li_3, li_4, li_5, li_6, li_7, li_8, li_9, li_10, li_11, li_12, li_13, li_14, li_15, li_16, li_17, li_18, li_20, li_24, li_29, li_30, li_31, li_32, li_37, li_39, li_40, li_42, li_43, li_45, li_46, li_47, li_48, li_53, li_57, li_59, li_60, li_61, li_62, li_63, li_80, li_81, li_91, li_93, li_97, li_100, li_122, li_200, li_255, li_256, li_257, li_258, li_259, li_260, li_300, li_314, li_400, li_580, li_999, li_5040, li_9999, li_65536, li_99999, li_7654321] <;> first | rfl | exact congrArg jn (by omega)) | exact congrArg jn (by omega)), jn_cln (by omega), jn_cln (by omega)]
        refine ⟨by simp (disch := omega) only [jn_le, jn_lt, jn_eq, jn_in, jn_add, jn_sub, jn_mul, jn_neg, li_0, li_1, li_2, li_3, li_4, li_5, li_6, li_7, li_8, li_9, li_10, li_11, li_12, li_13, li_14, li_15, li_16, li_17, li_18, li_20, li_24, li_29, li_30, li_31, li_32, li_37, li_39, li_40, li_42, li_43, li_45, li_46, li_47, li_48, li_53, li_57, li_59, li_60, li_61, li_62, li_63, li_80, li_81, li_91, li_93, li_97, li_100, li_122, li_200, li_255, li_256, li_257, li_258, li_259, li_260, li_300, li_314, li_400, li_580, li_999, li_5040, li_9999, li_65536, li_99999, li_7654321] <;> omega, by simp (disch := omega) only [jn_le, jn_lt, jn_eq, jn_in, jn_add, jn_sub, jn_mul, jn_neg, li_0, li_1, li_2, li_3, li_4, li_5, li_6, li_7, li_8, li_9, li_10, li_11, li_12, li_13, li_14, li_15, li_16, li_17, li_18, li_20, li_24, li_29, li_30, li_31, li_32, li_37, li_39, li_40, li_42, li_43, li_45, li_46, li_47, li_48, li_53, li_57, li_59, li_60, li_61, li_62, li_63, li_80, li_81, li_91, li_93, li_97, li_100, li_122, li_200, li_255, li_256, li_257, li_258, li_259, li_260, li_300, li_314, li_400, li_580, li_999, li_5040, li_9999, li_65536, li_99999, li_7654321] <;> omega, fun a1 e1 => ih (j + 1) _ a1 (by (first | rfl | (simp (disch := omega) only [jn_add, jn_sub, jn_mul, jn_neg, li_0, li_1, li_2, li_3, li_4, li_5, li_6, li_7, li_8, li_9, li_10, li_11, li_12, li_13, li_14, li_15, li_16, li_17, li_18, li_20, li_24, li_29, li_30, li_31, li_32, li_37, li_39, li_40, li_42, li_43, li_45, li_46, li_47, li_48, li_53, li_57, li_59, li_60, li_61, li_62, li_63, li_80, li_81, li_91, li_93, li_97, li_100, li_122, li_200, li_255, li_256, li_257, li_258, li_259, li_260, li_300, li_314, li_400, li_580, li_999, li_5040, li_9999, li_65536, li_99999, li_7654321] <;> first | rfl | exact congrArg jn (by omega)) | exact congrArg jn (by omega))) (by omega) (fun q hq => ?_) (fun q hq => ?_) (by omega)⟩
        · by_cases e : q = j
          · rw [e1, e, upd_at]; exact s1 j (by omega)
          · rw [e1, upd_ne (by omega)]; exact ha q (by omega)
        · rw [e1, upd_ne (by omega)]; exact hb q hq
  exact key N 0 _ sd rfl (by omega) (fun q hq => by omega) (fun q _ => rfl) (by omega)
end MAC
