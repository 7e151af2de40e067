/-! a turn without a rule -/
theorem vlu_none {l : lS} {g : gS} (hg : GOk (l_k l) g) (hk : l_k l ≤ 7) {c : Nat} (hc : c < l_k l) : (vlu l none g c).toInt = (plc l g c : Nat) := by
  have := iv_lt hg.1 hc
  show (jl (plc l g c : Nat)).toInt = _
  have : plc l g c < l_k l := this
  exact jl_toInt (by omega)
theorem wl_farthestBack {N : Nat} {l : lS} {g : gS} {od bk br lp lv : Nat → Int32} {tn : Int32} {Q : Int32 → Prop} (hN : 10 ≤ N) (hl : LOk l) (hg : GOk (l_k l) g) (hG : cG (l_k l) tn od bk br lp g) (hL : ar (l_k l) lv (l_l l)) (h : Q (jn (tP l none g))) : wp_X10_farthestBack N (jn (l_k l)) lv od bk br Q := by
  have hk := hl.2.2.1
  have hP := hg.1
  have hch := chS_ok (can := cn l g) (val := vlu l none g) (n := l_k l)
  have key : ∀ (n i : Nat) (v : Int32), v = jn ((i : Int) - 1) → i ≤ l_k l → (∀ p, i ≤ p → p < l_k l → cn l g (g_o g p) = false) → i < n → wp_X10_farthestBack_7 N (jn (l_k l)) lv od bk br Q n v := by
    intro n
    induction n with
    | zero => intro i v _ _ _ h2; omega
    | succ n ih =>
      intro i v hv h1 ha h2
      unfold wp_X10_farthestBack_7
      subst hv
      refine ⟨fun hc => ?_, fun hc => ?_⟩
      · simp (disch := omega) only [jn_le, jn_lt, jn_eq, jn_in, jn_add, jn_sub, jn_mul, jn_neg, li_0, li_1, li_2, li_3, li_4, li_5, li_6, li_7, li_8, li_9, li_10, li_11, li_12, li_13, li_14, li_15, li_16, li_17, li_18, li_20, li_24, li_29, li_30, li_31, li_32, li_37, li_39, li_40, li_42, li_43, li_45, li_46, li_47, li_48, li_53, li_57, li_59, li_60, li_61, li_62, li_63, li_80, li_81, li_91, li_93, li_97, li_100, li_122, li_200, li_255, li_256, li_257, li_258, li_259, li_260, li_300, li_314, li_400, li_580, li_999, li_5040, li_9999, li_65536, li_99999, li_7654321] at hc
        have : chP (cn l g) (vlu l none g) (l_k l) (none, 0) := by
          refine ⟨rfl, fun c hc' hcan => ?_⟩
          have hp : plc l g c < l_k l := iv_lt hP hc'
          by_cases e : i ≤ plc l g c
          · have := ha _ e hp
            rw [show g_o g (plc l g c) = c from iv_at hP hc', hcan] at this
            cases this
          · have := cn_r hg hc' hcan
            omega
        have e2 : tW l none g = none := chP_one hch this
        unfold tP at h; rw [e2] at h; exact h
      · simp (disch := omega) only [jn_le, jn_lt, jn_eq, jn_in, jn_add, jn_sub, jn_mul, jn_neg, li_0, li_1, li_2, li_3, li_4, li_5, li_6, li_7, li_8, li_9, li_10, li_11, li_12, li_13, li_14, li_15, li_16, li_17, li_18, li_20, li_24, li_29, li_30, li_31, li_32, li_37, li_39, li_40, li_42, li_43, li_45, li_46, li_47, li_48, li_53, li_57, li_59, li_60, li_61, li_62, li_63, li_80, li_81, li_91, li_93, li_97, li_100, li_122, li_200, li_255, li_256, li_257, li_258, li_259, li_260, li_300, li_314, li_400, li_580, li_999, li_5040, li_9999, li_65536, li_99999, li_7654321] at hc
        refine wl_canFrom hk hG.2.1 hG.2.2.1 hL hG.2.2.2.1 hP hg.2.1 hl.2.2.2.2.2.1 hg.2.2.1 (p := i - 1) (by omega) (congrArg jn (by omega)) ?_
        have hpl : plc l g (g_o g (i - 1)) = i - 1 := iv_eq hP (by omega)
        have hcn : cn l g (g_o g (i - 1)) = canb (g_o g) (g_b g) (l_l l) (g_r g) (i - 1) := by unfold cn; rw [hpl]
        refine ⟨fun he => ?_, fun he => ?_⟩
        · have hf : canb (g_o g) (g_b g) (l_l l) (g_r g) (i - 1) = false := by
            cases hb : canb (g_o g) (g_b g) (l_l l) (g_r g) (i - 1) with
            | false => rfl
            | true => rw [hb] at he; exact absurd he (by decide)
          refine ih (i - 1) _ (by rw [li_1, jn_neg, jn_add]; exact congrArg jn (by omega)) (by omega) (fun p hp hpk => ?_) (by omega)
          by_cases e : p = i - 1
          · subst e; rw [hcn]; exact hf
          · exact ha p (by omega) hpk
        · have hf : canb (g_o g) (g_b g) (l_l l) (g_r g) (i - 1) = true := by
            cases hb : canb (g_o g) (g_b g) (l_l l) (g_r g) (i - 1) with
            | true => rfl
            | false => rw [hb] at he; exact absurd rfl he
          have hob := hP.1 (i - 1) (by omega)
          have ev := vlu_none hg hk hob
          rw [hpl] at ev
          have : chP (cn l g) (vlu l none g) (l_k l) (some (g_o g (i - 1)), vlu l none g (g_o g (i - 1))) := by
            refine ⟨hob, by rw [hcn]; exact hf, rfl, by dsimp only; omega, fun c hc' hcan => ?_⟩
            have hp : plc l g c < l_k l := iv_lt hP hc'
            dsimp only
            rw [vlu_none hg hk hc', ev]
            by_cases e : i ≤ plc l g c
            · have := ha _ e hp
              rw [show g_o g (plc l g c) = c from iv_at hP hc', hcan] at this
              cases this
            · refine ⟨by omega, fun z => ?_⟩
              have : plc l g c = i - 1 := by omega
              rw [← this, show g_o g (plc l g c) = c from iv_at hP hc']; exact Nat.le_refl _
          have e2 : tW l none g = some (g_o g (i - 1)) := chP_one hch this
          unfold tP at h; rw [e2] at h
          dsimp only at h
          rw [hpl] at h
          rwa [show ((i : Int) - 1) = ((i - 1 : Nat) : Int) by omega]
  unfold wp_X10_farthestBack
  intro x hx
  refine key N (l_k l) x (by rw [hx, li_1, jn_sub]) (Nat.le_refl _) (fun p hp hpk => by omega) (by omega)
theorem wl_playTurnN {N : Nat} {l : lS} {g : gS} {od bk br lp lv lr : Nat → Int32} {tn : Int32} {Q : Int32 → Int32 → (Nat → Int32) → (Nat → Int32) → (Nat → Int32) → Prop} (hN : 10 ≤ N) (hl : LOk l) (hg : GOk (l_k l) g) (hG : cG (l_k l) tn od bk br lp g) (hL : ar (l_k l) lv (l_l l)) (hT : ar (l_k l) lr (l_r l)) (h : ∀ t o r p, cG (l_k l) t o bk r p (tS l none g) → Q (jn (tR l none g)) t o r p) : wp_X10_playTurn_N N (jn (l_s l)) (jn (l_k l)) lv lr bk Q tn od br lp := by
  unfold wp_X10_playTurn_N
  refine wl_farthestBack hN hl hg hG hL ?_
  obtain ⟨h1, h2, h3, h4, h5⟩ := hG
  obtain ⟨-, hs6, hk, -, -, hll, hlr, -⟩ := hl
  obtain ⟨hP, hb, hr, hpp⟩ := hg
  unfold wp_X10_playTurn_N_19 wp_X10_playTurn_N_52
  cases hw : tW l none g with
  | none =>
    have e1 : tP l none g = -1 := by unfold tP; rw [hw]
    rw [e1]
    refine ⟨fun _ => ?_, fun q => absurd (show jn (-1) < 0 by decide) q⟩
    refine wl_restAllBut (w := -2) hk hN h4 hT hr hlr rfl (by omega) (fun r hr' => ?_)
    have := h (tn + 1) od r lp ?_
    · unfold tR at this; rw [hw] at this; exact this
    · unfold tS; rw [hw]
      refine ⟨by rw [h1, li_1, jn_add]; rfl, h2, h3, ?_, h5⟩
      show ar _ r (rst (g_r g) (l_r l) (-1))
      rw [← rst_neg (w := -2) (by omega)]; exact hr'
  | some c =>
    obtain ⟨hc, hcan⟩ := tW_lt hw
    have hp := iv_lt hP hc
    have hp : plc l g c < l_k l := hp
    have hoc : g_o g (plc l g c) = c := iv_at hP hc
    have h0 := cn_r ⟨hP, hb, hr, hpp⟩ hc hcan
    have e1 : tP l none g = (plc l g c : Nat) := by unfold tP; rw [hw]
    rw [e1]
    refine ⟨fun q => ?_, fun _ => ⟨by simp (disch := omega) only [jn_le, jn_lt, jn_eq, jn_in, jn_add, jn_sub, jn_mul, jn_neg, li_0, li_1, li_2, li_3, li_4, li_5, li_6, li_7, li_8, li_9, li_10, li_11, li_12, li_13, li_14, li_15, li_16, li_17, li_18, li_20, li_24, li_29, li_30, li_31, li_32, li_37, li_39, li_40, li_42, li_43, li_45, li_46, li_47, li_48, li_53, li_57, li_59, li_60, li_61, li_62, li_63, li_80, li_81, li_91, li_93, li_97, li_100, li_122, li_200, li_255, li_256, li_257, li_258, li_259, li_260, li_300, li_314, li_400, li_580, li_999, li_5040, li_9999, li_65536, li_99999, li_7654321] <;> omega, fun x hx => ?_⟩⟩
    · simp (disch := omega) only [jn_le, jn_lt, jn_eq, jn_in, jn_add, jn_sub, jn_mul, jn_neg, li_0, li_1, li_2, li_3, li_4, li_5, li_6, li_7, li_8, li_9, li_10, li_11, li_12, li_13, li_14, li_15, li_16, li_17, li_18, li_20, li_24, li_29, li_30, li_31, li_32, li_37, li_39, li_40, li_42, li_43, li_45, li_46, li_47, li_48, li_53, li_57, li_59, li_60, li_61, li_62, li_63, li_80, li_81, li_91, li_93, li_97, li_100, li_122, li_200, li_255, li_256, li_257, li_258, li_259, li_260, li_300, li_314, li_400, li_580, li_999, li_5040, li_9999, li_65536, li_99999, li_7654321] at q
      omega
    · rw [jn_cln (by omega), h2 _ hp, hoc] at hx
      subst hx
      refine wl_overFrom hk hs6 hN h2 h3 hL hP hb hll hp rfl ?_
      refine wl_leapFrom hk hN h2 h4 h5 hP hpp hp (Nat.le_trans ovr_le (Nat.min_le_right _ _)) (by rw [hoc]; exact h0.1) rfl rfl (fun m r p hm hr' hp' => ?_)
      rw [hoc] at hr' hp'
      have br' : ∀ d, un (g_r g) c (g_r g c - 1) d ≤ 60 := by
        intro d
        unfold un
        have := hr d
        have := hr c
        split <;> omega
      refine wl_restAllBut (w := c) hk hN hr' hT br' hlr rfl (by omega) (fun r2 hr2 => ?_)
      have := h (tn + 1) m r2 p ?_
      · unfold tR at this; rw [hw] at this; exact this
      · unfold tS; rw [hw]
        exact ⟨by rw [h1, li_1, jn_add]; rfl, hm, h3, hr2, hp'⟩
