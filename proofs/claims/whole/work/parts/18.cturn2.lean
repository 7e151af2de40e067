/-! the class's Umpire: whom it chooses, and a turn -/
def cR (N : Nat) (code : Nat → Int32) (len : Nat) (f : (Nat → Int64) → Int64) : Prop := ∀ (w : Nat → Int64) (Q : Int64 → (Nat → Int64) → Prop) (pl : Nat → Int64), (∀ pl', Q (f w) pl') → wp_X6_worth N code w len Q pl
def tP (l : lS) (r : rS) (g : gS) : Int := match tW l r g with
  | none => -1
  | some c => (plc l g c : Nat)
def gP (l : lS) (r : rS) (g : gS) (q : Nat) (v : Int32) (b : Option Nat) (m : Int64) : Prop := match b with
  | none => v = jn (-1) ∧ m = 0 ∧ ∀ p, p < q → p < l_k l → cn l g (g_o g p) = true → (vlu l r g (g_o g p)).toInt ≤ 0
  | some b => v = jn b ∧ b < q ∧ b < l_k l ∧ cn l g (g_o g b) = true ∧ vlu l r g (g_o g b) = m ∧ 0 < m.toInt ∧ ∀ p, p < q → p < l_k l → cn l g (g_o g p) = true → (vlu l r g (g_o g p)).toInt ≤ m.toInt ∧ ((vlu l r g (g_o g p)).toInt = m.toInt → g_o g b ≤ g_o g p)
theorem gP_end {l : lS} {r : rS} {g : gS} {q : Nat} {v : Int32} {b : Option Nat} {m : Int64} (hg : GOk (l_k l) g) (h : gP l r g q v b m) (hq : l_k l ≤ q) : v = jn (tP l r g) := by
  have hP := hg.1
  have hch := chS_ok (can := cn l g) (val := vlu l r g) (n := l_k l)
  cases b with
  | none =>
    obtain ⟨h1, h2, h3⟩ := h
    have : chP (cn l g) (vlu l r g) (l_k l) (none, m) := ⟨h2, fun c hc hcan => by
      have := h3 (plc l g c) (by have := iv_lt hP hc; show iv _ _ _ < q; omega) (iv_lt hP hc)
      rw [show g_o g (plc l g c) = c from iv_at hP hc] at this
      exact this hcan⟩
    have e := chP_one hch this
    have e2 : tW l r g = none := e
    rw [h1]; unfold tP; rw [e2]
  | some b =>
    obtain ⟨h1, h2, h3, h4, h5, h6, h7⟩ := h
    have : chP (cn l g) (vlu l r g) (l_k l) (some (g_o g b), m) := ⟨hP.1 b h3, h4, h5, h6, fun c hc hcan => by
      have := h7 (plc l g c) (by have := iv_lt hP hc; show iv _ _ _ < q; omega) (iv_lt hP hc)
      rw [show g_o g (plc l g c) = c from iv_at hP hc] at this
      exact this hcan⟩
    have e := chP_one hch this
    have e2 : tW l r g = some (g_o g b) := e
    rw [h1]; unfold tP; rw [e2]
    show _ = jn (plc l g (g_o g b) : Nat)
    rw [show plc l g (g_o g b) = b from iv_eq hP h3]
theorem wl_greatest {N len : Nat} {l : lS} {g : gS} {f : (Nat → Int64) → Int64} {od bk br lp lv code : Nat → Int32} {tn : Int32} {Q : Int32 → (Nat → Int64) → (Nat → Int64) → Prop} {u pl : Nat → Int64} (hN : 10 ≤ N) (hl : LOk l) (hg : GOk (l_k l) g) (hG : cG (l_k l) tn od bk br lp g) (hL : ar (l_k l) lv (l_l l)) (ht : g_t g < 1000000) (hf : ROk (some f)) (hR : cR N code len f) (h : ∀ w pl, Q (jn (tP l (some f) g)) w pl) : wp_X10_greatest N (jn (l_s l)) (jn (l_k l)) lv tn od bk br lp code len Q u pl := by
  have hk := hl.2.2.1
  have hP := hg.1
  have hn7 : bs (cn l g) (l_k l) < 128 := bs_lt7 hk
  have key : ∀ (n q : Nat) (v4 : Int32) (m : Int64) (v8 : Int32) (w pl : Nat → Int64) (b : Option Nat), v8 = jn q → q ≤ 7 → gP l (some f) g q v4 b m → 7 < n + q → wp_X10_greatest_16 N (jn (l_s l)) (jn (l_k l)) lv tn od bk br lp code len Q n v4 m (jn (bs (cn l g) (l_k l))) v8 w pl := by
    intro n
    induction n with
    | zero =>
      intro q v4 m v8 w pl b hv hq hb h2
      exact absurd h2 (by omega)
    | succ n ih =>
      intro q v4 m v8 w pl b hv hq hb h2
      unfold wp_X10_greatest_16
      subst hv
      refine ⟨fun hc => ?_, fun hc => ?_⟩
      · simp (disch := omega) only [jn_le, jn_lt, jn_eq, jn_in, jn_add, jn_sub, jn_mul, jn_neg, li_0, li_1, li_2, li_3, li_4, li_5, li_6, li_7, li_8, li_9, li_10, li_11, li_12, li_13, li_14, li_15, li_16, li_17, li_18, li_20, li_24, li_29, li_30, li_31, li_32, li_37, li_39, li_40, li_42, li_43, li_45, li_46, li_47, li_48, li_53, li_57, li_59, li_60, li_61, li_62, li_63, li_80, li_81, li_91, li_93, li_97, li_100, li_122, li_200, li_255, li_256, li_257, li_258, li_259, li_260, li_300, li_314, li_400, li_580, li_999, li_5040, li_9999, li_65536, li_99999, li_7654321] at hc
        rw [gP_end hg hb (by omega)]; exact h w pl
      · simp (disch := omega) only [jn_le, jn_lt, jn_eq, jn_in, jn_add, jn_sub, jn_mul, jn_neg, li_0, li_1, li_2, li_3, li_4, li_5, li_6, li_7, li_8, li_9, li_10, li_11, li_12, li_13, li_14, li_15, li_16, li_17, li_18, li_20, li_24, li_29, li_30, li_31, li_32, li_37, li_39, li_40, li_42, li_43, li_45, li_46, li_47, li_48, li_53, li_57, li_59, li_60, li_61, li_62, li_63, li_80, li_81, li_91, li_93, li_97, li_100, li_122, li_200, li_255, li_256, li_257, li_258, li_259, li_260, li_300, li_314, li_400, li_580, li_999, li_5040, li_9999, li_65536, li_99999, li_7654321] at hc
        have hqk : q < l_k l := by omega
        have ho := hP.1 q hqk
        refine ⟨by simp (disch := omega) only [jn_le, jn_lt, jn_eq, jn_in, jn_add, jn_sub, jn_mul, jn_neg, li_0, li_1, li_2, li_3, li_4, li_5, li_6, li_7, li_8, li_9, li_10, li_11, li_12, li_13, li_14, li_15, li_16, li_17, li_18, li_20, li_24, li_29, li_30, li_31, li_32, li_37, li_39, li_40, li_42, li_43, li_45, li_46, li_47, li_48, li_53, li_57, li_59, li_60, li_61, li_62, li_63, li_80, li_81, li_91, li_93, li_97, li_100, li_122, li_200, li_255, li_256, li_257, li_258, li_259, li_260, li_300, li_314, li_400, li_580, li_999, li_5040, li_9999, li_65536, li_99999, li_7654321] <;> omega, fun x hx => ?_⟩
        rw [jn_cln (by omega), hG.2.1 q hqk] at hx
        subst hx
        have go : ∀ w pl, (cn l g (g_o g q) = true → gP l (some f) g (q + 1) v4 b m) → wp_X10_greatest_16 N (jn (l_s l)) (jn (l_k l)) lv tn od bk br lp code len Q n v4 m (jn (bs (cn l g) (l_k l))) (jn q + 1) w pl := by
          intro w pl hh
          refine ih (q + 1) _ _ _ _ _ b (by (first | rfl | (simp (disch := omega) only [jn_add, jn_sub, jn_mul, jn_neg, li_0, li_1, li_2, li_3, li_4, li_5, li_6, li_7, li_8, li_9, li_10, li_11, li_12, li_13, li_14, li_15, li_16, li_17, li_18, li_20, li_24, li_29, li_30, li_31, li_32, li_37, li_39, li_40, li_42, li_43, li_45, li_46, li_47, li_48, li_53, li_57, li_59, li_60, li_61, li_62, li_63, li_80, li_81, li_91, li_93, li_97, li_100, li_122, li_200, li_255, li_256, li_257, li_258, li_259, li_260, li_300, li_314, li_400, li_580, li_999, li_5040, li_9999, li_65536, li_99999, li_7654321] <;> first | rfl | exact congrArg jn (by omega)) | exact congrArg jn (by omega))) (by omega) ?_ (by omega)
          cases hcq : cn l g (g_o g q) with
          | true => exact hh hcq
          | false =>
            cases b with
            | none =>
              obtain ⟨h1, h2, h3⟩ := hb
              refine ⟨h1, h2, fun p hp hpk hcan => ?_⟩
              by_cases e : p = q
              · subst e; rw [hcq] at hcan; cases hcan
              · exact h3 p (by omega) hpk hcan
            | some b =>
              obtain ⟨h1, h2, h3, h4, h5, h6, h7⟩ := hb
              refine ⟨h1, by omega, h3, h4, h5, h6, fun p hp hpk hcan => ?_⟩
              by_cases e : p = q
              · subst e; rw [hcq] at hcan; cases hcan
              · exact h7 p (by omega) hpk hcan
        rw [jn_tst hn7 (by omega), bs_bit, decide_eq_true ho, Bool.true_and]
        refine ⟨fun he => ?_, fun he => ?_⟩
        · unfold wp_X10_greatest_124
          exact go _ _ (fun z => by rw [he] at z; cases z)
        · have hcq : cn l g (g_o g q) = true := by
            cases hz : cn l g (g_o g q) with
            | true => rfl
            | false => exact absurd hz he
          refine wl_tellWords hN hl hg hG hL ht hqk rfl (fun w3 hw3 => ?_)
          refine wl_bitCount hn7 rfl ?_
          rw [cnt_bs hk]
          refine ⟨by unfold vp_in; decide, fun w5 e5 => ?_⟩
          have hw5 : f w5 = vlu l (some f) g (g_o g q) := by
            refine hf f rfl _ _ (fun i hi => ?_)
            rw [e5, show (8 : Int32).toNatClampNeg = 8 from rfl]
            by_cases e : i = 8
            · subst e
              rw [updL_at, jn_l (by have := cnt_le (f := cn l g) (n := l_k l); omega)]; rfl
            · rw [updL_ne e]; exact hw3 i hi e
          refine hR w5 _ pl (fun pl' => ?_)
          rw [hw5, jn_cmp, jn_cmp0]
          unfold wp_X10_greatest_116 wp_X10_greatest_124
          have take : (∀ p, p < q → p < l_k l → cn l g (g_o g p) = true → (vlu l (some f) g (g_o g p)).toInt ≤ (vlu l (some f) g (g_o g q)).toInt ∧ ((vlu l (some f) g (g_o g p)).toInt = (vlu l (some f) g (g_o g q)).toInt → g_o g q ≤ g_o g p)) → 0 < (vlu l (some f) g (g_o g q)).toInt → wp_X10_greatest_16 N (jn (l_s l)) (jn (l_k l)) lv tn od bk br lp code len Q n (jn q) (vlu l (some f) g (g_o g q)) (jn (bs (cn l g) (l_k l))) (jn q + 1) w5 pl' := by
            intro hh h0
            refine ih (q + 1) _ _ _ _ _ (some q) (by (first | rfl | (simp (disch := omega) only [jn_add, jn_sub, jn_mul, jn_neg, li_0, li_1, li_2, li_3, li_4, li_5, li_6, li_7, li_8, li_9, li_10, li_11, li_12, li_13, li_14, li_15, li_16, li_17, li_18, li_20, li_24, li_29, li_30, li_31, li_32, li_37, li_39, li_40, li_42, li_43, li_45, li_46, li_47, li_48, li_53, li_57, li_59, li_60, li_61, li_62, li_63, li_80, li_81, li_91, li_93, li_97, li_100, li_122, li_200, li_255, li_256, li_257, li_258, li_259, li_260, li_300, li_314, li_400, li_580, li_999, li_5040, li_9999, li_65536, li_99999, li_7654321] <;> first | rfl | exact congrArg jn (by omega)) | exact congrArg jn (by omega))) (by omega) ?_ (by omega)
            refine ⟨rfl, by omega, hqk, hcq, rfl, h0, fun p hp hpk hcan => ?_⟩
            by_cases e : p = q
            · subst e; exact ⟨Int.le_refl _, fun _ => Nat.le_refl _⟩
            · exact hh p (by omega) hpk hcan
          refine ⟨fun hgt => ?_, fun hgt => ⟨fun hd => ?_, fun hd => ⟨fun heq => ?_, fun heq => ?_⟩⟩⟩
          · rw [Int64.lt_iff_toInt_lt] at hgt
            cases b with
            | none =>
              obtain ⟨h1, h2, h3⟩ := hb
              subst h2
              have h0 : (0 : Int64).toInt = 0 := rfl
              refine take (fun p hp hpk hcan => ?_) (by omega)
              have := h3 p hp hpk hcan
              exact ⟨by omega, fun z => by omega⟩
            | some b =>
              obtain ⟨h1, h2, h3, h4, h5, h6, h7⟩ := hb
              refine take (fun p hp hpk hcan => ?_) (by omega)
              have := h7 p hp hpk hcan
              exact ⟨by omega, fun z => by omega⟩
          · rw [Int64.lt_iff_toInt_lt] at hgt
            cases b with
            | none =>
              obtain ⟨h1, h2, h3⟩ := hb
              subst h2
              have h0 : (0 : Int64).toInt = 0 := rfl
              refine go _ _ (fun _ => ⟨h1, rfl, fun p hp hpk hcan => ?_⟩)
              by_cases e : p = q
              · subst e; omega
              · exact h3 p (by omega) hpk hcan
            | some b =>
              obtain ⟨h1, h2, h3, h4, h5, h6, h7⟩ := hb
              rw [h1, li_1, jn_neg, jn_eq (by omega) (by omega)] at hd
              omega
          · cases b with
            | none =>
              obtain ⟨h1, h2, h3⟩ := hb
              exact absurd h1 hd
            | some b =>
              obtain ⟨h1, h2, h3, h4, h5, h6, h7⟩ := hb
              have hob := hP.1 b h3
              subst h1
              rw [jn_cln (by omega), hG.2.1 b h3, jn_le (by omega) (by omega)]
              refine ⟨by simp (disch := omega) only [jn_le, jn_lt, jn_eq, jn_in, jn_add, jn_sub, jn_mul, jn_neg, li_0, li_1, li_2, li_3, li_4, li_5, li_6, li_7, li_8, li_9, li_10, li_11, li_12, li_13, li_14, li_15, li_16, li_17, li_18, li_20, li_24, li_29, li_30, li_31, li_32, li_37, li_39, li_40, li_42, li_43, li_45, li_46, li_47, li_48, li_53, li_57, li_59, li_60, li_61, li_62, li_63, li_80, li_81, li_91, li_93, li_97, li_100, li_122, li_200, li_255, li_256, li_257, li_258, li_259, li_260, li_300, li_314, li_400, li_580, li_999, li_5040, li_9999, li_65536, li_99999, li_7654321] <;> omega, fun hle => ?_, fun hle => ?_⟩
              · refine go _ _ (fun _ => ⟨rfl, by omega, h3, h4, h5, h6, fun p hp hpk hcan => ?_⟩)
                by_cases e : p = q
                · subst e; rw [heq]; exact ⟨Int.le_refl _, fun _ => by omega⟩
                · exact h7 p (by omega) hpk hcan
              · rw [← heq] at h6 h7
                have := take (fun p hp hpk hcan => ?_) h6
                · exact this
                · have := h7 p hp hpk hcan
                  exact ⟨this.1, fun z => by have := this.2 z; omega⟩
          · cases b with
            | none =>
              obtain ⟨h1, h2, h3⟩ := hb
              exact absurd h1 hd
            | some b =>
              obtain ⟨h1, h2, h3, h4, h5, h6, h7⟩ := hb
              rw [Int64.lt_iff_toInt_lt] at hgt
              rw [← Int64.toInt_inj] at heq
              refine go _ _ (fun _ => ⟨h1, by omega, h3, h4, h5, h6, fun p hp hpk hcan => ?_⟩)
              by_cases e : p = q
              · subst e; exact ⟨by omega, fun z => absurd z heq⟩
              · exact h7 p (by omega) hpk hcan
  unfold wp_X10_greatest
  refine wl_whoCan hk hN hG.2.1 hG.2.2.1 hL hG.2.2.2.1 hP hg.2.1 hl.2.2.2.2.2.1 hg.2.2.1 ?_
  refine key N 1 _ _ _ _ _ none rfl (by omega) ⟨rfl, rfl, fun p hp hpk hcan => ?_⟩ (by omega)
  have e : p = 0 := by omega
  subst e
  have : plc l g (g_o g 0) = 0 := iv_eq hP hpk
  unfold cn at hcan
  rw [this] at hcan
  unfold canb at hcan
  exact absurd (of_decide_eq_true hcan).1 (by omega)
theorem tW_lt {l : lS} {r : rS} {g : gS} {c : Nat} (h : tW l r g = some c) : c < l_k l ∧ cn l g c = true := by
  have hch := chS_ok (can := cn l g) (val := vlu l r g) (n := l_k l)
  have e : (chS (cn l g) (vlu l r g) (l_k l)).1 = some c := h
  unfold chP at hch
  rw [e] at hch
  exact ⟨hch.1, hch.2.1⟩
/-- who leaps, told as the class tells it -/
def tR (l : lS) (r : rS) (g : gS) : Int := match tW l r g with
  | none => -2
  | some c => (c : Nat)
theorem cn_r {l : lS} {g : gS} {c : Nat} (hg : GOk (l_k l) g) (hc : c < l_k l) (h : cn l g c = true) : 0 < g_r g c ∧ 0 < plc l g c := by
  unfold cn canb at h
  have h := of_decide_eq_true h
  rw [show g_o g (plc l g c) = c from iv_at hg.1 hc] at h
  exact ⟨h.2.1, h.1⟩
theorem wl_playTurn {N len : Nat} {l : lS} {g : gS} {f : (Nat → Int64) → Int64} {od bk br lp lv lr code : Nat → Int32} {tn : Int32} {Q : Int32 → (Nat → Int64) → (Nat → Int64) → Int32 → (Nat → Int32) → (Nat → Int32) → (Nat → Int32) → Prop} {u pl : Nat → Int64} (hN : 10 ≤ N) (hl : LOk l) (hg : GOk (l_k l) g) (hG : cG (l_k l) tn od bk br lp g) (hL : ar (l_k l) lv (l_l l)) (hT : ar (l_k l) lr (l_r l)) (ht : g_t g < 1000000) (hf : ROk (some f)) (hR : cR N code len f) (h : ∀ w pl t o r p, cG (l_k l) t o bk r p (tS l (some f) g) → Q (jn (tR l (some f) g)) w pl t o r p) : wp_X10_playTurn N (jn (l_s l)) (jn (l_k l)) lv lr bk code len Q u pl tn od br lp := by
  unfold wp_X10_playTurn
  refine wl_greatest hN hl hg hG hL ht hf hR (fun w pl => ?_)
  obtain ⟨h1, h2, h3, h4, h5⟩ := hG
  obtain ⟨-, hs6, hk, -, -, hll, hlr, -⟩ := hl
  obtain ⟨hP, hb, hr, hpp⟩ := hg
  unfold wp_X10_playTurn_19 wp_X10_playTurn_52
  cases hw : tW l (some f) g with
  | none =>
    have e1 : tP l (some f) g = -1 := by unfold tP; rw [hw]
    rw [e1]
    refine ⟨fun _ => ?_, fun q => absurd (show jn (-1) < 0 by decide) q⟩
    refine wl_restAllBut (w := -2) hk hN h4 hT hr hlr rfl (by omega) (fun r hr' => ?_)
    have := h w pl (tn + 1) od r lp ?_
    · unfold tR at this; rw [hw] at this; exact this
    · unfold tS; rw [hw]
      refine ⟨by rw [h1, li_1, jn_add]; rfl, h2, h3, ?_, h5⟩
      show ar _ r (rst (g_r g) (l_r l) (-1))
      rw [← rst_neg (w := -2) (by omega)]; exact hr'
  | some c =>
    obtain ⟨hc, hcan⟩ := tW_lt hw
    have hp := iv_lt hP hc
    have hp : plc l g c < l_k l := hp
    have hoc : g_o g (plc l g c) = c := iv_at hP hc
    have h0 := cn_r ⟨hP, hb, hr, hpp⟩ hc hcan
    have e1 : tP l (some f) g = (plc l g c : Nat) := by unfold tP; rw [hw]
    rw [e1]
    refine ⟨fun q => ?_, fun _ => ⟨by simp (disch := omega) only [jn_le, jn_lt, jn_eq, jn_in, jn_add, jn_sub, jn_mul, jn_neg, li_0, li_1, li_2, li_3, li_4, li_5, li_6, li_7, li_8, li_9, li_10, li_11, li_12, li_13, li_14, li_15, li_16, li_17, li_18, li_20, li_24, li_29, li_30, li_31, li_32, li_37, li_39, li_40, li_42, li_43, li_45, li_46, li_47, li_48, li_53, li_57, li_59, li_60, li_61, li_62, li_63, li_80, li_81, li_91, li_93, li_97, li_100, li_122, li_200, li_255, li_256, li_257, li_258, li_259, li_260, li_300, li_314, li_400, li_580, li_999, li_5040, li_9999, li_65536, li_99999, li_7654321] <;> omega, fun x hx => ?_⟩⟩
    · simp (disch := omega) only [jn_le, jn_lt, jn_eq, jn_in, jn_add, jn_sub, jn_mul, jn_neg, li_0, li_1, li_2, li_3, li_4, li_5, li_6, li_7, li_8, li_9, li_10, li_11, li_12, li_13, li_14, li_15, li_16, li_17, li_18, li_20, li_24, li_29, li_30, li_31, li_32, li_37, li_39, li_40, li_42, li_43, li_45, li_46, li_47, li_48, li_53, li_57, li_59, li_60, li_61, li_62, li_63, li_80, li_81, li_91, li_93, li_97, li_100, li_122, li_200, li_255, li_256, li_257, li_258, li_259, li_260, li_300, li_314, li_400, li_580, li_999, li_5040, li_9999, li_65536, li_99999, li_7654321] at q
      omega
    · rw [jn_cln (by omega), h2 _ hp, hoc] at hx
      subst hx
      refine wl_overFrom hk hs6 hN h2 h3 hL hP hb hll hp rfl ?_
      refine wl_leapFrom hk hN h2 h4 h5 hP hpp hp (Nat.le_trans ovr_le (Nat.min_le_right _ _)) (by rw [hoc]; exact h0.1) rfl rfl (fun m r p hm hr' hp' => ?_)
      rw [hoc] at hr' hp'
      have br' : ∀ d, un (g_r g) c (g_r g c - 1) d ≤ 60 := by
        intro d
        unfold un
        have := hr d
        have := hr c
        split <;> omega
      refine wl_restAllBut (w := c) hk hN hr' hT br' hlr rfl (by omega) (fun r2 hr2 => ?_)
      have := h w pl (tn + 1) m r2 p ?_
      · unfold tR at this; rw [hw] at this; exact this
      · unfold tS; rw [hw]
        exact ⟨by rw [h1, li_1, jn_add]; rfl, hm, h3, hr2, hp'⟩
