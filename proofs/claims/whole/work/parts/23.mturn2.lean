/-! the reference's turn: what it changes -/
theorem wm_moves {N c b : Nat} {l : lS} {g : gS} {sd : Nat → Int32} {Q : (Nat → Int32) → Prop} {x y : Int32} (hN : 10 ≤ N) (hl : LOk l) (hg : GOk (l_k l) g) (hL : mL sd l) (hG : mG (l_k l) sd g) (hx : x = jn c) (hy : y = jn b) (hc : c < l_k l) (hb : b ≤ plc l g c) (h : ∀ sd', mG (l_k l) sd' (g_t g, mv (g_o g) (plc l g c) b, g_b g, g_r g, g_p g) → mF (l_k l) sd sd' → Q sd') : wp_X12_moves N Q x y sd := by
  subst hx hy
  have hk := hl.2.2.1
  have hP := hg.1
  have hp : plc l g c < l_k l := iv_lt hP hc
  have hoc : g_o g (plc l g c) = c := iv_at hP hc
  have key : ∀ (n i : Nat) (v : Int32) (s : Nat → Int32), v = jn i → i ≤ l_k l → (∀ o, o < l_k l → s (13 + 4 * o) = if o < i ∧ plc l g c - b ≤ plc l g o ∧ plc l g o < plc l g c then jn ((plc l g o + 1 : Nat) : Int) else jn (plc l g o)) → (∀ j, (∀ o, o < l_k l → j ≠ 13 + 4 * o) → s j = sd j) → l_k l < n + i → wp_X12_moves_11 N Q n (jn c) (jn ((plc l g c - b : Nat) : Int)) v s := by
    intro n
    induction n with
    | zero => intro i v s _ h1 _ _ h2; omega
    | succ n ih =>
      intro i v s hv h1 hs ho h2
      unfold wp_X12_moves_11 wp_X12_moves_63
      subst hv
      rw [show (2 : Int32).toNatClampNeg = 2 from rfl, ho 2 (fun o _ => by omega), hL.2.2.1]
      refine ⟨by unfold vp_in; decide, fun hd => ?_, fun hd => ?_⟩
      · simp (disch := omega) only [jn_le, jn_lt, jn_eq, jn_in, jn_add, jn_sub, jn_mul, jn_neg, li_0, li_1, li_2, li_3, li_4, li_5, li_6, li_7, li_8, li_9, li_10, li_11, li_12, li_13, li_14, li_15, li_16, li_17, li_18, li_20, li_24, li_29, li_30, li_31, li_32, li_37, li_39, li_40, li_42, li_43, li_45, li_46, li_47, li_48, li_53, li_57, li_59, li_60, li_61, li_62, li_63, li_80, li_81, li_91, li_93, li_97, li_100, li_122, li_200, li_255, li_256, li_257, li_258, li_259, li_260, li_300, li_314, li_400, li_580, li_999, li_5040, li_9999, li_65536, li_99999, li_7654321] at hd
        have ei : i = l_k l := by omega
        subst ei
        rw [show (11 : Int32) + (4 : Int32) * jn c + (2 : Int32) = jn ((13 + 4 * c : Nat) : Int) from by (first | rfl | (simp (disch := omega) only [jn_add, jn_sub, jn_mul, jn_neg, li_0, li_1, li_2, li_3, li_4, li_5, li_6, li_7, li_8, li_9, li_10, li_11, li_12, li_13, li_14, li_15, li_16, li_17, li_18, li_20, li_24, li_29, li_30, li_31, li_32, li_37, li_39, li_40, li_42, li_43, li_45, li_46, li_47, li_48, li_53, li_57, li_59, li_60, li_61, li_62, li_63, li_80, li_81, li_91, li_93, li_97, li_100, li_122, li_200, li_255, li_256, li_257, li_258, li_259, li_260, li_300, li_314, li_400, li_580, li_999, li_5040, li_9999, li_65536, li_99999, li_7654321] <;> first | rfl | exact congrArg jn (by omega)) | exact congrArg jn (by omega)), jn_cln (by omega)]
        refine ⟨by simp (disch := omega) only [jn_le, jn_lt, jn_eq, jn_in, jn_add, jn_sub, jn_mul, jn_neg, li_0, li_1, li_2, li_3, li_4, li_5, li_6, li_7, li_8, li_9, li_10, li_11, li_12, li_13, li_14, li_15, li_16, li_17, li_18, li_20, li_24, li_29, li_30, li_31, li_32, li_37, li_39, li_40, li_42, li_43, li_45, li_46, li_47, li_48, li_53, li_57, li_59, li_60, li_61, li_62, li_63, li_80, li_81, li_91, li_93, li_97, li_100, li_122, li_200, li_255, li_256, li_257, li_258, li_259, li_260, li_300, li_314, li_400, li_580, li_999, li_5040, li_9999, li_65536, li_99999, li_7654321] <;> omega, fun a ha => h a ?_ ?_⟩
        · refine ⟨?_, fun d hd' => ?_, fun d hd' => ?_, fun q hq => ?_, fun d hd' => ?_⟩
          · rw [ha, upd_ne (by omega), ho _ (fun o _ => by omega)]; exact hG.1
          · rw [ha, upd_ne (by omega), ho _ (fun o _ => by omega)]; exact hG.2.1 d hd'
          · rw [ha, upd_ne (by omega), ho _ (fun o _ => by omega)]; exact hG.2.2.1 d hd'
          · show a (13 + 4 * mv (g_o g) (plc l g c) b q) = jn q
            have pq : ∀ q, q < l_k l → plc l g (g_o g q) = q := fun q hq => iv_eq hP hq
            unfold mv
            by_cases e1 : q = plc l g c - b
            · rw [if_pos e1, hoc, ha, upd_at, e1]
            · rw [if_neg e1]
              by_cases e2 : plc l g c - b < q ∧ q ≤ plc l g c
              · rw [if_pos e2]
                have hq1 := hP.1 (q - 1) (by omega)
                have hne : g_o g (q - 1) ≠ c := by
                  intro z
                  have := hP.2.1 (q - 1) (plc l g c) (by omega) hp (by rw [hoc]; exact z)
                  omega
                rw [ha, upd_ne (by omega), hs _ hq1, pq _ (by omega), if_pos (by omega)]
                exact congrArg jn (by omega)
              · rw [if_neg e2]
                have hq1 := hP.1 q hq
                have hne : g_o g q ≠ c := by
                  intro z
                  have := hP.2.1 q (plc l g c) hq hp (by rw [hoc]; exact z)
                  omega
                rw [ha, upd_ne (by omega), hs _ hq1, pq _ hq, if_neg (by omega)]
          · rw [ha, upd_ne (by omega), ho _ (fun o _ => by omega)]; exact hG.2.2.2.2 d hd'
        · intro j hj
          rw [ha, upd_ne (by omega)]
          exact ho j (fun o hok => by omega)
      · simp (disch := omega) only [jn_le, jn_lt, jn_eq, jn_in, jn_add, jn_sub, jn_mul, jn_neg, li_0, li_1, li_2, li_3, li_4, li_5, li_6, li_7, li_8, li_9, li_10, li_11, li_12, li_13, li_14, li_15, li_16, li_17, li_18, li_20, li_24, li_29, li_30, li_31, li_32, li_37, li_39, li_40, li_42, li_43, li_45, li_46, li_47, li_48, li_53, li_57, li_59, li_60, li_61, li_62, li_63, li_80, li_81, li_91, li_93, li_97, li_100, li_122, li_200, li_255, li_256, li_257, li_258, li_259, li_260, li_300, li_314, li_400, li_580, li_999, li_5040, li_9999, li_65536, li_99999, li_7654321] at hd
        have hi : i < l_k l := by omega
        have hpi : plc l g i < l_k l := iv_lt hP hi
        refine wm_placeOf rfl (by omega) ?_
        refine wm_placeOf rfl (by omega) ?_
        rw [hs i hi, if_neg (by omega), hs c hc, if_neg (by omega)]
        refine wm_in (a := plc l g i) (b := (plc l g c - b : Nat)) (c := (plc l g c : Int) - 1) (jn_l (by omega)) (jn_l (by omega)) (by rw [li_1, jn_sub]; exact jn_l (by omega)) (by omega) (by omega) (by omega) ?_
        refine ⟨fun q => ?_, fun q => ?_⟩
        · have q : ¬ (plc l g c - b ≤ plc l g i ∧ plc l g i < plc l g c) := by
            intro z
            rw [if_pos (by omega)] at q
            exact absurd q (by decide)
          refine ih (i + 1) _ _ (by (first | rfl | (simp (disch := omega) only [jn_add, jn_sub, jn_mul, jn_neg, li_0, li_1, li_2, li_3, li_4, li_5, li_6, li_7, li_8, li_9, li_10, li_11, li_12, li_13, li_14, li_15, li_16, li_17, li_18, li_20, li_24, li_29, li_30, li_31, li_32, li_37, li_39, li_40, li_42, li_43, li_45, li_46, li_47, li_48, li_53, li_57, li_59, li_60, li_61, li_62, li_63, li_80, li_81, li_91, li_93, li_97, li_100, li_122, li_200, li_255, li_256, li_257, li_258, li_259, li_260, li_300, li_314, li_400, li_580, li_999, li_5040, li_9999, li_65536, li_99999, li_7654321] <;> first | rfl | exact congrArg jn (by omega)) | exact congrArg jn (by omega))) (by omega) (fun o hok => ?_) ho (by omega)
          rw [hs o hok]
          by_cases e : o = i
          · subst e; rw [if_neg (by omega), if_neg (fun z => q z.2)]
          · by_cases e2 : o < i ∧ plc l g c - b ≤ plc l g o ∧ plc l g o < plc l g c
            · rw [if_pos e2, if_pos (by omega)]
            · rw [if_neg e2, if_neg (by omega)]
        · have q : plc l g c - b ≤ plc l g i ∧ plc l g i < plc l g c := by
            by_cases z : plc l g c - b ≤ plc l g i ∧ plc l g i < plc l g c
            · exact z
            · rw [if_neg (by omega)] at q; exact absurd rfl q
          rw [show (11 : Int32) + (4 : Int32) * jn i + (2 : Int32) = jn ((13 + 4 * i : Nat) : Int) from by (first | rfl | (simp (disch := omega) only [jn_add, jn_sub, jn_mul, jn_neg, li_0, li_1, li_2, li_3, li_4, li_5, li_6, li_7, li_8, li_9, li_10, li_11, li_12, li_13, li_14, li_15, li_16, li_17, li_18, li_20, li_24, li_29, li_30, li_31, li_32, li_37, li_39, li_40, li_42, li_43, li_45, li_46, li_47, li_48, li_53, li_57, li_59, li_60, li_61, li_62, li_63, li_80, li_81, li_91, li_93, li_97, li_100, li_122, li_200, li_255, li_256, li_257, li_258, li_259, li_260, li_300, li_314, li_400, li_580, li_999, li_5040, li_9999, li_65536, li_99999, li_7654321] <;> first | rfl | exact congrArg jn (by omega)) | exact congrArg jn (by omega)), jn_cln (by omega)]
          refine ⟨by simp (disch := omega) only [jn_le, jn_lt, jn_eq, jn_in, jn_add, jn_sub, jn_mul, jn_neg, li_0, li_1, li_2, li_3, li_4, li_5, li_6, li_7, li_8, li_9, li_10, li_11, li_12, li_13, li_14, li_15, li_16, li_17, li_18, li_20, li_24, li_29, li_30, li_31, li_32, li_37, li_39, li_40, li_42, li_43, li_45, li_46, li_47, li_48, li_53, li_57, li_59, li_60, li_61, li_62, li_63, li_80, li_81, li_91, li_93, li_97, li_100, li_122, li_200, li_255, li_256, li_257, li_258, li_259, li_260, li_300, li_314, li_400, li_580, li_999, li_5040, li_9999, li_65536, li_99999, li_7654321] <;> omega, by simp (disch := omega) only [jn_le, jn_lt, jn_eq, jn_in, jn_add, jn_sub, jn_mul, jn_neg, li_0, li_1, li_2, li_3, li_4, li_5, li_6, li_7, li_8, li_9, li_10, li_11, li_12, li_13, li_14, li_15, li_16, li_17, li_18, li_20, li_24, li_29, li_30, li_31, li_32, li_37, li_39, li_40, li_42, li_43, li_45, li_46, li_47, li_48, li_53, li_57, li_59, li_60, li_61, li_62, li_63, li_80, li_81, li_91, li_93, li_97, li_100, li_122, li_200, li_255, li_256, li_257, li_258, li_259, li_260, li_300, li_314, li_400, li_580, li_999, li_5040, li_9999, li_65536, li_99999, li_7654321] <;> omega, fun a ha => ?_⟩
          refine ih (i + 1) _ _ (by (first | rfl | (simp (disch := omega) only [jn_add, jn_sub, jn_mul, jn_neg, li_0, li_1, li_2, li_3, li_4, li_5, li_6, li_7, li_8, li_9, li_10, li_11, li_12, li_13, li_14, li_15, li_16, li_17, li_18, li_20, li_24, li_29, li_30, li_31, li_32, li_37, li_39, li_40, li_42, li_43, li_45, li_46, li_47, li_48, li_53, li_57, li_59, li_60, li_61, li_62, li_63, li_80, li_81, li_91, li_93, li_97, li_100, li_122, li_200, li_255, li_256, li_257, li_258, li_259, li_260, li_300, li_314, li_400, li_580, li_999, li_5040, li_9999, li_65536, li_99999, li_7654321] <;> first | rfl | exact congrArg jn (by omega)) | exact congrArg jn (by omega))) (by omega) (fun o hok => ?_) (fun j hj => ?_) (by omega)
          · by_cases e : o = i
            · subst e
              rw [ha, upd_at, hs o hok, if_neg (by omega), if_pos (by omega), li_1, jn_add]
              exact congrArg jn (by omega)
            · rw [ha, upd_ne (by omega), hs o hok]
              by_cases e2 : o < i ∧ plc l g c - b ≤ plc l g o ∧ plc l g o < plc l g c
              · rw [if_pos e2, if_pos (by omega)]
              · rw [if_neg e2, if_neg (by omega)]
          · rw [ha, upd_ne (hj i hi)]; exact ho j hj
  unfold wp_X12_moves
  refine wm_placeOf rfl (by omega) (fun z hz => ?_)
  rw [mG_plc hg hG hc, jn_sub] at hz
  rw [show z = jn ((plc l g c - b : Nat) : Int) by rw [hz]; exact congrArg jn (by omega)]
  exact key N 0 _ sd rfl (by omega) (fun o hok => by rw [if_neg (by omega)]; exact mG_plc hg hG hok) (fun _ _ => rfl) (by omega)
theorem wm_leaps {N c b : Nat} {l : lS} {g : gS} {sd : Nat → Int32} {Q : (Nat → Int32) → Prop} {x y : Int32} (hN : 10 ≤ N) (hl : LOk l) (hg : GOk (l_k l) g) (hL : mL sd l) (hG : mG (l_k l) sd g) (hx : x = jn c) (hy : y = jn b) (hc : c < l_k l) (hb : b ≤ plc l g c) (h0 : 0 < g_r g c) (h : ∀ sd', mG (l_k l) sd' (g_t g, mv (g_o g) (plc l g c) b, g_b g, un (g_r g) c (g_r g c - 1), un (g_p g) c (min 999 (g_p g c + b))) → mF (l_k l) sd sd' → Q sd') : wp_X12_leaps N Q x y sd := by
  have hk := hl.2.2.1
  have hP := hg.1
  have hp : plc l g c < l_k l := iv_lt hP hc
  have b1 := hg.2.2.2 c
  have b2 := hg.2.2.1 c
  unfold wp_X12_leaps
  refine wm_moves hN hl hg hL hG hx hy hc hb (fun s1 hG1 hF1 => ?_)
  subst hx hy
  refine wm_leaptOf rfl (by omega) (fun z hz => ?_)
  rw [show s1 (14 + 4 * c) = jn (g_p g c) from hG1.2.2.2.2 c hc, jn_add] at hz
  subst hz
  have both : ∀ v : Int32, v = jn ((min 999 (g_p g c + b) : Nat) : Int) → wp_X12_leaps_40 N Q (jn c) v (((11 : Int32) + ((4 : Int32) * jn c)) + (3 : Int32)) s1 := by
    intro v hv
    unfold wp_X12_leaps_40
    rw [show (11 : Int32) + (4 : Int32) * jn c + (3 : Int32) = jn ((14 + 4 * c : Nat) : Int) from by (first | rfl | (simp (disch := omega) only [jn_add, jn_sub, jn_mul, jn_neg, li_0, li_1, li_2, li_3, li_4, li_5, li_6, li_7, li_8, li_9, li_10, li_11, li_12, li_13, li_14, li_15, li_16, li_17, li_18, li_20, li_24, li_29, li_30, li_31, li_32, li_37, li_39, li_40, li_42, li_43, li_45, li_46, li_47, li_48, li_53, li_57, li_59, li_60, li_61, li_62, li_63, li_80, li_81, li_91, li_93, li_97, li_100, li_122, li_200, li_255, li_256, li_257, li_258, li_259, li_260, li_300, li_314, li_400, li_580, li_999, li_5040, li_9999, li_65536, li_99999, li_7654321] <;> first | rfl | exact congrArg jn (by omega)) | exact congrArg jn (by omega)), jn_cln (by omega)]
    rw [show (11 : Int32) + (4 : Int32) * jn c + (1 : Int32) = jn ((12 + 4 * c : Nat) : Int) from by (first | rfl | (simp (disch := omega) only [jn_add, jn_sub, jn_mul, jn_neg, li_0, li_1, li_2, li_3, li_4, li_5, li_6, li_7, li_8, li_9, li_10, li_11, li_12, li_13, li_14, li_15, li_16, li_17, li_18, li_20, li_24, li_29, li_30, li_31, li_32, li_37, li_39, li_40, li_42, li_43, li_45, li_46, li_47, li_48, li_53, li_57, li_59, li_60, li_61, li_62, li_63, li_80, li_81, li_91, li_93, li_97, li_100, li_122, li_200, li_255, li_256, li_257, li_258, li_259, li_260, li_300, li_314, li_400, li_580, li_999, li_5040, li_9999, li_65536, li_99999, li_7654321] <;> first | rfl | exact congrArg jn (by omega)) | exact congrArg jn (by omega)), jn_cln (by omega)]
    refine ⟨by simp (disch := omega) only [jn_le, jn_lt, jn_eq, jn_in, jn_add, jn_sub, jn_mul, jn_neg, li_0, li_1, li_2, li_3, li_4, li_5, li_6, li_7, li_8, li_9, li_10, li_11, li_12, li_13, li_14, li_15, li_16, li_17, li_18, li_20, li_24, li_29, li_30, li_31, li_32, li_37, li_39, li_40, li_42, li_43, li_45, li_46, li_47, li_48, li_53, li_57, li_59, li_60, li_61, li_62, li_63, li_80, li_81, li_91, li_93, li_97, li_100, li_122, li_200, li_255, li_256, li_257, li_258, li_259, li_260, li_300, li_314, li_400, li_580, li_999, li_5040, li_9999, li_65536, li_99999, li_7654321] <;> omega, fun a4 h4 => ⟨by simp (disch := omega) only [jn_le, jn_lt, jn_eq, jn_in, jn_add, jn_sub, jn_mul, jn_neg, li_0, li_1, li_2, li_3, li_4, li_5, li_6, li_7, li_8, li_9, li_10, li_11, li_12, li_13, li_14, li_15, li_16, li_17, li_18, li_20, li_24, li_29, li_30, li_31, li_32, li_37, li_39, li_40, li_42, li_43, li_45, li_46, li_47, li_48, li_53, li_57, li_59, li_60, li_61, li_62, li_63, li_80, li_81, li_91, li_93, li_97, li_100, li_122, li_200, li_255, li_256, li_257, li_258, li_259, li_260, li_300, li_314, li_400, li_580, li_999, li_5040, li_9999, li_65536, li_99999, li_7654321] <;> omega, by simp (disch := omega) only [jn_le, jn_lt, jn_eq, jn_in, jn_add, jn_sub, jn_mul, jn_neg, li_0, li_1, li_2, li_3, li_4, li_5, li_6, li_7, li_8, li_9, li_10, li_11, li_12, li_13, li_14, li_15, li_16, li_17, li_18, li_20, li_24, li_29, li_30, li_31, li_32, li_37, li_39, li_40, li_42, li_43, li_45, li_46, li_47, li_48, li_53, li_57, li_59, li_60, li_61, li_62, li_63, li_80, li_81, li_91, li_93, li_97, li_100, li_122, li_200, li_255, li_256, li_257, li_258, li_259, li_260, li_300, li_314, li_400, li_580, li_999, li_5040, li_9999, li_65536, li_99999, li_7654321] <;> omega, fun a5 h5 => h a5 ?_ ?_⟩⟩
    · refine ⟨?_, fun d hd => ?_, fun d hd => ?_, fun q hq => ?_, fun d hd => ?_⟩
      · rw [h5, upd_ne (by omega), h4, upd_ne (by omega)]; exact hG1.1
      · rw [h5, upd_ne (by omega), h4, upd_ne (by omega)]; exact hG1.2.1 d hd
      · show a5 (12 + 4 * d) = jn (un (g_r g) c (g_r g c - 1) d : Nat)
        by_cases e : d = c
        · subst e
          rw [h5, upd_at, h4, upd_ne (by omega), show s1 (12 + 4 * d) = jn (g_r g d) from hG1.2.2.1 d hd, un_at, li_1, jn_sub]
          exact congrArg jn (by omega)
        · rw [h5, upd_ne (by omega), h4, upd_ne (by omega), un_ne e]; exact hG1.2.2.1 d hd
      · rw [h5, upd_ne (by omega), h4, upd_ne (by omega)]; exact hG1.2.2.2.1 q hq
      · show a5 (14 + 4 * d) = jn (un (g_p g) c (min 999 (g_p g c + b)) d : Nat)
        by_cases e : d = c
        · subst e
          rw [h5, upd_ne (by omega), h4, upd_at, un_at, hv]
        · rw [h5, upd_ne (by omega), h4, upd_ne (by omega), un_ne e]; exact hG1.2.2.2.2 d hd
    · rw [h5]
      refine mF_upd ?_ (by omega)
      rw [h4]
      exact mF_upd hF1 (by omega)
  refine ⟨fun q => ?_, fun q => ?_⟩
  · simp (disch := omega) only [jn_le, jn_lt, jn_eq, jn_in, jn_add, jn_sub, jn_mul, jn_neg, li_0, li_1, li_2, li_3, li_4, li_5, li_6, li_7, li_8, li_9, li_10, li_11, li_12, li_13, li_14, li_15, li_16, li_17, li_18, li_20, li_24, li_29, li_30, li_31, li_32, li_37, li_39, li_40, li_42, li_43, li_45, li_46, li_47, li_48, li_53, li_57, li_59, li_60, li_61, li_62, li_63, li_80, li_81, li_91, li_93, li_97, li_100, li_122, li_200, li_255, li_256, li_257, li_258, li_259, li_260, li_300, li_314, li_400, li_580, li_999, li_5040, li_9999, li_65536, li_99999, li_7654321] at q
    exact both _ (congrArg jn (by omega))
  · simp (disch := omega) only [jn_le, jn_lt, jn_eq, jn_in, jn_add, jn_sub, jn_mul, jn_neg, li_0, li_1, li_2, li_3, li_4, li_5, li_6, li_7, li_8, li_9, li_10, li_11, li_12, li_13, li_14, li_15, li_16, li_17, li_18, li_20, li_24, li_29, li_30, li_31, li_32, li_37, li_39, li_40, li_42, li_43, li_45, li_46, li_47, li_48, li_53, li_57, li_59, li_60, li_61, li_62, li_63, li_80, li_81, li_91, li_93, li_97, li_100, li_122, li_200, li_255, li_256, li_257, li_258, li_259, li_260, li_300, li_314, li_400, li_580, li_999, li_5040, li_9999, li_65536, li_99999, li_7654321] at q
    exact both _ (by rw [li_999]; exact congrArg jn (by omega))
theorem wm_passes {N : Nat} {l : lS} {g : gS} {r : rS} {sg cl cs sd : Nat → Int32} {fc : Int32} {Q : Int32 → (Nat → Int64) → Int32 → (Nat → Int64) → (Nat → Int32) → Prop} {st wd : Nat → Int64} {tp : Int32} (hN : 10 ≤ N) (hl : LOk l) (hg : GOk (l_k l) g) (hL : mL sd l) (hG : mG (l_k l) sd g) (ht : g_t g < 1000000) (hf : ROk r) (hR : mR N sg cl cs fc r) (h : ∀ s t w sd', mG (l_k l) sd' (tS l r g) → mF (l_k l) sd sd' → Q (jn (oC (tW l r g))) s t w sd') : wp_X12_passes N sg cl cs fc Q st tp wd sd := by
  have hk := hl.2.2.1
  have hP := hg.1
  unfold wp_X12_passes
  refine wm_choice hN hl hg hL hG ht hf hR (fun s t w => ?_)
  have rest : ∀ (s1 : Nat → Int32) (o : Nat → Nat) (F : Nat → Nat) (P : Nat → Nat) (u : Int), mG (l_k l) s1 (g_t g, o, g_b g, F, P) → mF (l_k l) sd s1 → (∀ c, F c ≤ 60) → -1 ≤ u ∧ u < 7 → (∀ sd', mG (l_k l) sd' (g_t g + 1, o, g_b g, rst F (l_r l) u, P) → mF (l_k l) sd sd' → Q (jn u) s t w sd') → wp_X12_passes_19 N sg cl cs fc Q (jn u) s t w s1 := by
    intro s1 o F P u hG1 hF1 hF hu hq
    unfold wp_X12_passes_19
    have key : ∀ (n i : Nat) (v : Int32) (s2 : Nat → Int32), v = jn i → i ≤ l_k l → mG (l_k l) s2 (g_t g, o, g_b g, (fun c => if c < i then rst F (l_r l) u c else F c), P) → mF (l_k l) sd s2 → l_k l < n + i → wp_X12_passes_21 N sg cl cs fc Q n (jn u) v s t w s2 := by
      intro n
      induction n with
      | zero => intro i v s2 _ h1 _ _ h2; omega
      | succ n ih =>
        intro i v s2 hv h1 hG2 hF2 h2
        have hL2 := mF_L hl hF2 hL
        unfold wp_X12_passes_21 wp_X12_passes_70
        subst hv
        rw [show (2 : Int32).toNatClampNeg = 2 from rfl, hL2.2.2.1]
        refine ⟨by unfold vp_in; decide, fun hd => ?_, fun hd => ?_⟩
        · simp (disch := omega) only [jn_le, jn_lt, jn_eq, jn_in, jn_add, jn_sub, jn_mul, jn_neg, li_0, li_1, li_2, li_3, li_4, li_5, li_6, li_7, li_8, li_9, li_10, li_11, li_12, li_13, li_14, li_15, li_16, li_17, li_18, li_20, li_24, li_29, li_30, li_31, li_32, li_37, li_39, li_40, li_42, li_43, li_45, li_46, li_47, li_48, li_53, li_57, li_59, li_60, li_61, li_62, li_63, li_80, li_81, li_91, li_93, li_97, li_100, li_122, li_200, li_255, li_256, li_257, li_258, li_259, li_260, li_300, li_314, li_400, li_580, li_999, li_5040, li_9999, li_65536, li_99999, li_7654321] at hd
          refine ⟨by unfold vp_in; decide, by unfold vp_in; decide, fun a ha => hq a ?_ ?_⟩
          · rw [show (10 : Int32).toNatClampNeg = 10 from rfl, hG2.1, li_1, jn_add] at ha
            refine ⟨?_, fun d hd' => ?_, fun d hd' => ?_, fun q hq' => ?_, fun d hd' => ?_⟩
            · rw [ha, upd_at]; rfl
            · rw [ha, upd_ne (by omega)]; exact hG2.2.1 d hd'
            · rw [ha, upd_ne (by omega), hG2.2.2.1 d hd']
              show jn ((if d < i then rst F (l_r l) u d else F d : Nat) : Int) = _
              rw [if_pos (by omega)]; rfl
            · rw [ha, upd_ne (by omega)]; exact hG2.2.2.2.1 q hq'
            · rw [ha, upd_ne (by omega)]; exact hG2.2.2.2.2 d hd'
          · rw [ha]; exact mF_upd hF2 (by show 10 ≤ 10 ∧ 10 < _; omega)
        · simp (disch := omega) only [jn_le, jn_lt, jn_eq, jn_in, jn_add, jn_sub, jn_mul, jn_neg, li_0, li_1, li_2, li_3, li_4, li_5, li_6, li_7, li_8, li_9, li_10, li_11, li_12, li_13, li_14, li_15, li_16, li_17, li_18, li_20, li_24, li_29, li_30, li_31, li_32, li_37, li_39, li_40, li_42, li_43, li_45, li_46, li_47, li_48, li_53, li_57, li_59, li_60, li_61, li_62, li_63, li_80, li_81, li_91, li_93, li_97, li_100, li_122, li_200, li_255, li_256, li_257, li_258, li_259, li_260, li_300, li_314, li_400, li_580, li_999, li_5040, li_9999, li_65536, li_99999, li_7654321] at hd
          have hi : i < l_k l := by omega
          have b1 := hF i
          have b2 := hl.2.2.2.2.2.2.1 i
          have e0 : s2 (12 + 4 * i) = jn (F i) := by
            rw [hG2.2.2.1 i hi]
            show jn ((if i < i then rst F (l_r l) u i else F i : Nat) : Int) = _
            rw [if_neg (by omega)]
          have stay : ¬ ((i : Int) ≠ u ∧ F i < l_r l i) → wp_X12_passes_21 N sg cl cs fc Q n (jn u) (jn i + 1) s t w s2 := by
            intro q
            refine ih (i + 1) _ s2 (by (first | rfl | (simp (disch := omega) only [jn_add, jn_sub, jn_mul, jn_neg, li_0, li_1, li_2, li_3, li_4, li_5, li_6, li_7, li_8, li_9, li_10, li_11, li_12, li_13, li_14, li_15, li_16, li_17, li_18, li_20, li_24, li_29, li_30, li_31, li_32, li_37, li_39, li_40, li_42, li_43, li_45, li_46, li_47, li_48, li_53, li_57, li_59, li_60, li_61, li_62, li_63, li_80, li_81, li_91, li_93, li_97, li_100, li_122, li_200, li_255, li_256, li_257, li_258, li_259, li_260, li_300, li_314, li_400, li_580, li_999, li_5040, li_9999, li_65536, li_99999, li_7654321] <;> first | rfl | exact congrArg jn (by omega)) | exact congrArg jn (by omega))) (by omega) ?_ hF2 (by omega)
            refine ⟨hG2.1, hG2.2.1, fun d hd' => ?_, hG2.2.2.2.1, hG2.2.2.2.2⟩
            rw [hG2.2.2.1 d hd']
            show jn ((if d < i then rst F (l_r l) u d else F d : Nat) : Int) = jn ((if d < i + 1 then rst F (l_r l) u d else F d : Nat) : Int)
            by_cases e : d = i
            · subst e
              rw [if_neg (by omega), if_pos (by omega)]; unfold rst; rw [if_neg q]
            · by_cases e2 : d < i
              · rw [if_pos e2, if_pos (by omega)]
              · rw [if_neg e2, if_neg (by omega)]
          refine ⟨fun he => ?_, fun he => ?_⟩
          · rw [jn_eq (by omega) (by omega)] at he
            exact stay (by omega)
          · rw [jn_eq (by omega) (by omega)] at he
            refine wm_breathOf rfl (by omega) ?_
            rw [e0, show (53 : Int32) + jn i = jn ((53 + i : Nat) : Int) from by (first | rfl | (simp (disch := omega) only [jn_add, jn_sub, jn_mul, jn_neg, li_0, li_1, li_2, li_3, li_4, li_5, li_6, li_7, li_8, li_9, li_10, li_11, li_12, li_13, li_14, li_15, li_16, li_17, li_18, li_20, li_24, li_29, li_30, li_31, li_32, li_37, li_39, li_40, li_42, li_43, li_45, li_46, li_47, li_48, li_53, li_57, li_59, li_60, li_61, li_62, li_63, li_80, li_81, li_91, li_93, li_97, li_100, li_122, li_200, li_255, li_256, li_257, li_258, li_259, li_260, li_300, li_314, li_400, li_580, li_999, li_5040, li_9999, li_65536, li_99999, li_7654321] <;> first | rfl | exact congrArg jn (by omega)) | exact congrArg jn (by omega)), jn_cln (by omega), hL2.2.2.2.2.2 i hi]
            refine ⟨by simp (disch := omega) only [jn_le, jn_lt, jn_eq, jn_in, jn_add, jn_sub, jn_mul, jn_neg, li_0, li_1, li_2, li_3, li_4, li_5, li_6, li_7, li_8, li_9, li_10, li_11, li_12, li_13, li_14, li_15, li_16, li_17, li_18, li_20, li_24, li_29, li_30, li_31, li_32, li_37, li_39, li_40, li_42, li_43, li_45, li_46, li_47, li_48, li_53, li_57, li_59, li_60, li_61, li_62, li_63, li_80, li_81, li_91, li_93, li_97, li_100, li_122, li_200, li_255, li_256, li_257, li_258, li_259, li_260, li_300, li_314, li_400, li_580, li_999, li_5040, li_9999, li_65536, li_99999, li_7654321] <;> omega, fun hf => ?_, fun hf => ?_⟩
            · rw [jn_le (by omega) (by omega)] at hf
              exact stay (by omega)
            · rw [jn_le (by omega) (by omega)] at hf
              rw [show (11 : Int32) + (4 : Int32) * jn i + (1 : Int32) = jn ((12 + 4 * i : Nat) : Int) from by (first | rfl | (simp (disch := omega) only [jn_add, jn_sub, jn_mul, jn_neg, li_0, li_1, li_2, li_3, li_4, li_5, li_6, li_7, li_8, li_9, li_10, li_11, li_12, li_13, li_14, li_15, li_16, li_17, li_18, li_20, li_24, li_29, li_30, li_31, li_32, li_37, li_39, li_40, li_42, li_43, li_45, li_46, li_47, li_48, li_53, li_57, li_59, li_60, li_61, li_62, li_63, li_80, li_81, li_91, li_93, li_97, li_100, li_122, li_200, li_255, li_256, li_257, li_258, li_259, li_260, li_300, li_314, li_400, li_580, li_999, li_5040, li_9999, li_65536, li_99999, li_7654321] <;> first | rfl | exact congrArg jn (by omega)) | exact congrArg jn (by omega)), jn_cln (by omega), e0]
              refine ⟨by simp (disch := omega) only [jn_le, jn_lt, jn_eq, jn_in, jn_add, jn_sub, jn_mul, jn_neg, li_0, li_1, li_2, li_3, li_4, li_5, li_6, li_7, li_8, li_9, li_10, li_11, li_12, li_13, li_14, li_15, li_16, li_17, li_18, li_20, li_24, li_29, li_30, li_31, li_32, li_37, li_39, li_40, li_42, li_43, li_45, li_46, li_47, li_48, li_53, li_57, li_59, li_60, li_61, li_62, li_63, li_80, li_81, li_91, li_93, li_97, li_100, li_122, li_200, li_255, li_256, li_257, li_258, li_259, li_260, li_300, li_314, li_400, li_580, li_999, li_5040, li_9999, li_65536, li_99999, li_7654321] <;> omega, by simp (disch := omega) only [jn_le, jn_lt, jn_eq, jn_in, jn_add, jn_sub, jn_mul, jn_neg, li_0, li_1, li_2, li_3, li_4, li_5, li_6, li_7, li_8, li_9, li_10, li_11, li_12, li_13, li_14, li_15, li_16, li_17, li_18, li_20, li_24, li_29, li_30, li_31, li_32, li_37, li_39, li_40, li_42, li_43, li_45, li_46, li_47, li_48, li_53, li_57, li_59, li_60, li_61, li_62, li_63, li_80, li_81, li_91, li_93, li_97, li_100, li_122, li_200, li_255, li_256, li_257, li_258, li_259, li_260, li_300, li_314, li_400, li_580, li_999, li_5040, li_9999, li_65536, li_99999, li_7654321] <;> omega, fun a ha => ?_⟩
              refine ih (i + 1) _ a (by (first | rfl | (simp (disch := omega) only [jn_add, jn_sub, jn_mul, jn_neg, li_0, li_1, li_2, li_3, li_4, li_5, li_6, li_7, li_8, li_9, li_10, li_11, li_12, li_13, li_14, li_15, li_16, li_17, li_18, li_20, li_24, li_29, li_30, li_31, li_32, li_37, li_39, li_40, li_42, li_43, li_45, li_46, li_47, li_48, li_53, li_57, li_59, li_60, li_61, li_62, li_63, li_80, li_81, li_91, li_93, li_97, li_100, li_122, li_200, li_255, li_256, li_257, li_258, li_259, li_260, li_300, li_314, li_400, li_580, li_999, li_5040, li_9999, li_65536, li_99999, li_7654321] <;> first | rfl | exact congrArg jn (by omega)) | exact congrArg jn (by omega))) (by omega) ?_ (by rw [ha]; exact mF_upd hF2 (by omega)) (by omega)
              refine ⟨?_, fun d hd' => ?_, fun d hd' => ?_, fun q hq' => ?_, fun d hd' => ?_⟩
              · rw [ha, upd_ne (by omega)]; exact hG2.1
              · rw [ha, upd_ne (by omega)]; exact hG2.2.1 d hd'
              · show a (12 + 4 * d) = jn ((if d < i + 1 then rst F (l_r l) u d else F d : Nat) : Int)
                by_cases e : d = i
                · subst e
                  rw [ha, upd_at, if_pos (by omega)]; unfold rst; rw [if_pos (by omega), li_1, jn_add]; rfl
                · rw [ha, upd_ne (by omega), hG2.2.2.1 d hd']
                  show jn ((if d < i then rst F (l_r l) u d else F d : Nat) : Int) = _
                  by_cases e2 : d < i
                  · rw [if_pos e2, if_pos (by omega)]
                  · rw [if_neg e2, if_neg (by omega)]
              · rw [ha, upd_ne (by omega)]; exact hG2.2.2.2.1 q hq'
              · rw [ha, upd_ne (by omega)]; exact hG2.2.2.2.2 d hd'
    refine key N 0 _ s1 rfl (by omega) ?_ hF1 (by omega)
    refine ⟨hG1.1, hG1.2.1, fun d hd' => ?_, hG1.2.2.2.1, hG1.2.2.2.2⟩
    rw [hG1.2.2.1 d hd']
    show jn (F d : Nat) = jn ((if d < 0 then rst F (l_r l) u d else F d : Nat) : Int)
    rw [if_neg (by omega)]
  cases hw : tW l r g with
  | none =>
    have e : tS l r g = tB l g none := by unfold tS; rw [hw]
    rw [e, hw] at h
    refine ⟨fun _ => ?_, fun q => absurd (show jn (-1) < 0 by decide) q⟩
    exact rest sd (g_o g) (g_r g) (g_p g) (-1) hG mF_refl hg.2.2.1 (by omega) (fun sd' a b => h s t w sd' a b)
  | some c =>
    have e : tS l r g = tB l g (some c) := by unfold tS; rw [hw]
    rw [e, hw] at h
    obtain ⟨hc, hcan⟩ := tW_lt hw
    have h0 := cn_r hg hc hcan
    refine ⟨fun q => ?_, fun _ => ?_⟩
    · have q : jn (c : Int) < 0 := q
      simp (disch := omega) only [jn_le, jn_lt, jn_eq, jn_in, jn_add, jn_sub, jn_mul, jn_neg, li_0, li_1, li_2, li_3, li_4, li_5, li_6, li_7, li_8, li_9, li_10, li_11, li_12, li_13, li_14, li_15, li_16, li_17, li_18, li_20, li_24, li_29, li_30, li_31, li_32, li_37, li_39, li_40, li_42, li_43, li_45, li_46, li_47, li_48, li_53, li_57, li_59, li_60, li_61, li_62, li_63, li_80, li_81, li_91, li_93, li_97, li_100, li_122, li_200, li_255, li_256, li_257, li_258, li_259, li_260, li_300, li_314, li_400, li_580, li_999, li_5040, li_9999, li_65536, li_99999, li_7654321] at q
      omega
    · refine wm_overOf hN hl hg hL hG rfl hc ?_
      refine wm_leaps hN hl hg hL hG rfl rfl hc (Nat.le_trans ovr_le (Nat.min_le_right _ _)) h0.1 (fun s1 hG1 hF1 => ?_)
      refine rest s1 _ _ _ (c : Nat) hG1 hF1 (fun d => ?_) (by omega) (fun sd' a b => h s t w sd' a b)
      unfold un
      have := hg.2.2.1 d
      have := hg.2.2.1 c
      split <;> omega
