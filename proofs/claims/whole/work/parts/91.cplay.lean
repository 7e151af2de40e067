/-! the class: turns one after another -/
section CPL
variable {N n : Nat} {l : lS} {g : gS} {rm inf x tn : Int32} {rl : Nat → Option Nat} {od bk br lp lv lr : Nat → Int32}
theorem wl_playOnR {len : Nat} {f : (Nat → Int64) → Int64} {code : Nat → Int32} {Q : (Nat → Int64) → (Nat → Int64) → Int32 → (Nat → Int32) → (Nat → Int32) → (Nat → Int32) → Prop} {u pl : Nat → Int64} (hN : 500 ≤ N) (hn : n ≤ 400) (hx : x = jn n) (hF : ∀ K : Prop, K → wp_X11_ruleInForce_R N rm rl inf K) (hl : LOk l) (hg : GOk (l_k l) g) (hG : cG (l_k l) tn od bk br lp g) (hL : ar (l_k l) lv (l_l l)) (hT : ar (l_k l) lr (l_r l)) (ht : g_t g + n < 1000000) (hf : ROk (some f)) (hR : cR N code len f) (h : ∀ w pl t o r p, cG (l_k l) t o bk r p (tI l (some f) n g) → Q w pl t o r p) : wp_X11_playOn_R N rm rl (jn (l_s l)) (jn (l_k l)) lv lr inf bk code len Q x u pl tn od br lp := by
  unfold wp_X11_playOn_R
  subst hx
  have key : ∀ (k i : Nat) (g' : gS) (v2 tn : Int32) (u pl : Nat → Int64) (od br lp : Nat → Int32), v2 = jn i → i ≤ n → GOk (l_k l) g' → cG (l_k l) tn od bk br lp g' → g_t g' = g_t g + i → tI l (some f) (n - i) g' = tI l (some f) n g → n < k + i → wp_X11_playOn_R_2 N rm rl (jn (l_s l)) (jn (l_k l)) lv lr inf bk code len Q k (jn n) v2 u pl tn od br lp := by
    intro k
    induction k with
    | zero => intro i g' v2 tn u pl od br lp _ h1 _ _ _ _ h2; omega
    | succ k ih =>
      intro i g' v2 tn u pl od br lp e2 hi hg' hG' ht' hI hk
      unfold wp_X11_playOn_R_2
      subst e2
      rw [jn_le (by omega) (by omega)]
      refine ⟨fun z => ?_, fun z => hF _ ?_⟩
      · have e : i = n := by omega
        subst e
        rw [Nat.sub_self] at hI
        refine h _ _ _ _ _ _ ?_
        rw [← hI]; exact hG'
      · refine wl_playTurn (by omega) hl hg' hG' hL hT (by omega) hf hR (fun w pl t o r p a1 => ?_)
        refine ih (i + 1) (tS l (some f) g') _ _ _ _ _ _ _ (by (first | rfl | (simp (disch := omega) only [jn_add, jn_sub, jn_mul, jn_neg, li_0, li_1, li_2, li_3, li_4, li_5, li_6, li_7, li_8, li_9, li_10, li_11, li_12, li_13, li_14, li_15, li_16, li_17, li_18, li_20, li_24, li_29, li_30, li_31, li_32, li_37, li_39, li_40, li_42, li_43, li_45, li_46, li_47, li_48, li_53, li_57, li_59, li_60, li_61, li_62, li_63, li_80, li_81, li_91, li_93, li_97, li_100, li_122, li_200, li_255, li_256, li_257, li_258, li_259, li_260, li_300, li_314, li_400, li_580, li_999, li_5040, li_9999, li_65536, li_99999, li_7654321] <;> first | rfl | exact congrArg jn (by omega)) | exact congrArg jn (by omega))) (by omega) (tS_ok hl hg') a1 (by rw [tS_t]; omega) ?_ (by omega)
        rw [← hI, show n - i = (n - (i + 1)) + 1 by omega]; rfl
  exact key N 0 g _ _ _ _ _ _ _ rfl (by omega) hg hG rfl rfl (by omega)
theorem wl_playOnN {Q : Int32 → (Nat → Int32) → (Nat → Int32) → (Nat → Int32) → Prop} (hN : 500 ≤ N) (hn : n ≤ 400) (hx : x = jn n) (hF : ∀ K : Prop, K → wp_X11_ruleInForce_N N rm rl inf K) (hl : LOk l) (hg : GOk (l_k l) g) (hG : cG (l_k l) tn od bk br lp g) (hL : ar (l_k l) lv (l_l l)) (hT : ar (l_k l) lr (l_r l)) (h : ∀ t o r p, cG (l_k l) t o bk r p (tI l none n g) → Q t o r p) : wp_X11_playOn_N N rm rl (jn (l_s l)) (jn (l_k l)) lv lr inf bk Q x tn od br lp := by
  unfold wp_X11_playOn_N
  subst hx
  have key : ∀ (k i : Nat) (g' : gS) (v2 tn : Int32) (od br lp : Nat → Int32), v2 = jn i → i ≤ n → GOk (l_k l) g' → cG (l_k l) tn od bk br lp g' → tI l none (n - i) g' = tI l none n g → n < k + i → wp_X11_playOn_N_2 N rm rl (jn (l_s l)) (jn (l_k l)) lv lr inf bk Q k (jn n) v2 tn od br lp := by
    intro k
    induction k with
    | zero => intro i g' v2 tn od br lp _ h1 _ _ _ h2; omega
    | succ k ih =>
      intro i g' v2 tn od br lp e2 hi hg' hG' hI hk
      unfold wp_X11_playOn_N_2
      subst e2
      rw [jn_le (by omega) (by omega)]
      refine ⟨fun z => ?_, fun z => hF _ ?_⟩
      · have e : i = n := by omega
        subst e
        rw [Nat.sub_self] at hI
        refine h _ _ _ _ ?_
        rw [← hI]; exact hG'
      · refine wl_playTurnN (by omega) hl hg' hG' hL hT (fun t o r p a1 => ?_)
        refine ih (i + 1) (tS l none g') _ _ _ _ _ (by (first | rfl | (simp (disch := omega) only [jn_add, jn_sub, jn_mul, jn_neg, li_0, li_1, li_2, li_3, li_4, li_5, li_6, li_7, li_8, li_9, li_10, li_11, li_12, li_13, li_14, li_15, li_16, li_17, li_18, li_20, li_24, li_29, li_30, li_31, li_32, li_37, li_39, li_40, li_42, li_43, li_45, li_46, li_47, li_48, li_53, li_57, li_59, li_60, li_61, li_62, li_63, li_80, li_81, li_91, li_93, li_97, li_100, li_122, li_200, li_255, li_256, li_257, li_258, li_259, li_260, li_300, li_314, li_400, li_580, li_999, li_5040, li_9999, li_65536, li_99999, li_7654321] <;> first | rfl | exact congrArg jn (by omega)) | exact congrArg jn (by omega))) (by omega) (tS_ok hl hg') a1 ?_ (by omega)
        rw [← hI, show n - i = (n - (i + 1)) + 1 by omega]; rfl
  exact key N 0 g _ _ _ _ _ rfl (by omega) hg hG rfl (by omega)
end CPL
