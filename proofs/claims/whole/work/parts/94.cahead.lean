/-! ahead, leads, stuck: the class -/
def aAh (l : lS) (r : rS) (g : gS) (x : Int32) (n : Nat) (w : Int32) : Int32 := if w = 0 then jn (onum (g_o (tI l r n g)) (l_k l) : Int) else if w = 1 then (match asC (l_k l) x with
  | some c => jn (g_r (tI l r n g) c : Int)
  | none => -1) else jn (sumTo (g_p (tI l r n g)) (l_k l) : Int)
/-- what is asked is well told: so many turns, which of three -/
def qAh (l : lS) (x y w : Int32) (n : Nat) : Prop := l_t l = 1 ∧ y = jn (n : Int) ∧ n ≤ 100 ∧ (w = 0 ∨ w = 1 ∨ w = 2) ∧ (w = 1 → ∃ c, asC (l_k l) x = some c)
/-- the first of n that holds -/
def fst (P : Nat → Bool) (n : Nat) : Nat := lead (fun i => !P i) n
theorem fst_is {P : Nat → Bool} {n i : Nat} (h : i < n) (h1 : P i = true) (h2 : ∀ j, j < i → P j = false) : fst P n = i := lead_is (by omega) (fun j hj => by rw [h2 j hj]; rfl) (Or.inr (by rw [h1]; rfl))
theorem fst_no {P : Nat → Bool} {n : Nat} (h2 : ∀ j, j < n → P j = false) : fst P n = n := lead_is (Nat.le_refl n) (fun j hj => by rw [h2 j hj]; rfl) (Or.inl rfl)
def pLd (l : lS) (r : rS) (g : gS) (c : Nat) (i : Nat) : Bool := decide (g_o (tI l r (i + 1) g) 0 = c)
def pSt (l : lS) (r : rS) (g : gS) (i : Nat) : Bool := (tW l r (tI l r i g)).isNone
def a200 (g : gS) (P : Nat → Bool) : Int32 := if fst P 200 = 200 then -2 else jn ((g_t g + fst P 200 : Nat) : Int)
theorem tR_nob {l : lS} {r : rS} {g : gS} (hk : l_k l ≤ 7) : (jn (tR l r g) = -2) = (tW l r g = none) := by
  unfold tR
  cases h : tW l r g with
  | none => exact propext ⟨fun _ => rfl, fun _ => rfl⟩
  | some c =>
    have := tW_lt h
    dsimp only
    rw [show (-2 : Int32) = jn (-2) from rfl, jn_eq (by omega) (by omega)]
    exact propext ⟨fun q => by omega, fun q => by cases q⟩
theorem oC_nob {l : lS} {r : rS} {g : gS} (hk : l_k l ≤ 7) : (0 ≤ jn (oC (tW l r g))) = (tW l r g ≠ none) := by
  cases h : tW l r g with
  | none => exact propext ⟨fun q => absurd q (by decide), fun q => absurd rfl q⟩
  | some c =>
    have := tW_lt h
    show (0 ≤ jn (c : Int)) = _
    rw [li_0, jn_le (by omega) (by omega)]
    exact propext ⟨fun _ q => (by cases q), fun _ => by omega⟩
section CAH
variable {N n : Nat} {l : lS} {g : gS} {rm inf tn tn' : Int32} {rl : Nat → Option Nat} {lv lr od bk br lp od' bk' br' lp' : Nat → Int32}
theorem wl_ahead_N  {Q : Int32 → Int32 → (Nat → Int32) → (Nat → Int32) → (Nat → Int32) → (Nat → Int32) → Prop} {x y w : Int32} (hN : 500 ≤ N) (hF : ∀ K : Prop, K → wp_X11_ruleInForce_N N rm rl inf K) (hl : LOk l) (hg : GOk (l_k l) g) (hG : cG (l_k l) tn od bk br lp g) (hL : ar (l_k l) lv (l_l l)) (hT : ar (l_k l) lr (l_r l)) (ht : g_t g < 10000) 
    (h0 : (∀ n, ¬ qAh l x y w n) → ∀ t o b r p, Q (-1) t o b r p) (h1 : ∀ n, qAh l x y w n → ∀ t o b r p, Q (aAh l none g x n w) t o b r p) : wp_X11_ahead_N N rm rl (jn (l_t l)) (jn (l_s l)) (jn (l_k l)) lv lr tn od bk br lp inf Q x y w tn' od' bk' br' lp' := by
  have hk := hl.2.2.1
  obtain ⟨b, rfl, hb⟩ := jn_of y
  obtain ⟨d, rfl, hd⟩ := jn_of w
  unfold wp_X11_ahead_N wp_X11_ahead_N_45
  have go : ∀ n : Nat, b = n → l_t l = 1 → n ≤ 100 → 0 ≤ d → d ≤ 2 → (d = 1 → ∃ c, asC (l_k l) x = some c) → wp_X11_ahead_N_47 N rm rl (jn (l_t l)) (jn (l_s l)) (jn (l_k l)) lv lr tn od bk br lp inf Q x (jn b) (jn d) tn' od' bk' br' lp' := by
    intro n e ht1 hn h3 h4 h5
    subst e
    have hq : qAh l x (jn (n : Int)) (jn d) n := ⟨ht1, rfl, hn, by
      rw [li_0, li_1, li_2, jn_eq (by omega) (by omega), jn_eq (by omega) (by omega), jn_eq (by omega) (by omega)]; omega, fun z => h5 (by rw [li_1, jn_eq (by omega) (by omega)] at z; exact z)⟩
    have hQ := h1 n hq
    unfold wp_X11_ahead_N_47
    refine wl_takeG (fun o b r p e1 e2 e3 e4 => ?_)
    refine wl_po_N hN (by omega) rfl hF hl hg (cG_of hk hG e1 e2 e3 e4) hL hT (by omega) (fun t o r p a1 => ?_)
    unfold aAh at hQ
    refine ⟨fun z => ?_, fun z => ⟨fun z1 => ?_, fun z1 => ?_⟩⟩
    · rw [if_pos z] at hQ
      exact wl_orderNumber hk (by omega) a1.2.1 (hQ _ _ _ _ _)
    · rw [if_neg z, if_pos z1] at hQ
      rw [li_1, jn_eq (by omega) (by omega)] at z1
      obtain ⟨c, hc⟩ := h5 z1
      rw [hc] at hQ
      obtain ⟨c1, c2⟩ := asC_some hc
      subst c2
      refine ⟨by simp (disch := omega) only [jn_le, jn_lt, jn_eq, jn_in, jn_add, jn_sub, jn_mul, jn_neg, li_0, li_1, li_2, li_3, li_4, li_5, li_6, li_7, li_8, li_9, li_10, li_11, li_12, li_13, li_14, li_15, li_16, li_17, li_18, li_20, li_24, li_29, li_30, li_31, li_32, li_37, li_39, li_40, li_42, li_43, li_45, li_46, li_47, li_48, li_53, li_57, li_59, li_60, li_61, li_62, li_63, li_80, li_81, li_91, li_93, li_97, li_100, li_122, li_200, li_255, li_256, li_257, li_258, li_259, li_260, li_300, li_314, li_400, li_580, li_999, li_5040, li_9999, li_65536, li_99999, li_7654321] <;> omega, ?_⟩
      rw [jn_cln (by omega), a1.2.2.2.1 c c1]
      exact hQ _ _ _ _ _
    · rw [if_neg z, if_neg z1] at hQ
      exact wl_allLeapt hk (by omega) a1.2.2.2.2 (hQ _ _ _ _ _)
  have no : ∀ P : Prop, (∀ n, qAh l x (jn b) (jn d) n → P) → ¬ P → ∀ t o b r p, Q (-1) t o b r p := fun P h3 h4 => h0 (fun n hq => h4 (h3 n hq))
  have hl1 := hl.1
  rw [li_0, li_100, li_1, li_2, jn_eq (by omega) (by omega), jn_lt hb (by omega), jn_lt (by omega) hb, jn_lt hd (by omega), jn_lt (by omega) hd, jn_eq hd (by omega)]
  have qb : ∀ n, qAh l x (jn b) (jn d) n → l_t l = 1 ∧ b = n ∧ n ≤ 100 ∧ 0 ≤ d ∧ d ≤ 2 ∧ (d = 1 → ∃ c, asC (l_k l) x = some c) := by
    rintro n ⟨q1, q2, q3, q4, q5⟩
    rw [jn_eq hb (by omega)] at q2
    rw [li_0, li_1, li_2, jn_eq hd (by omega), jn_eq hd (by omega), jn_eq hd (by omega)] at q4
    rw [li_1, jn_eq hd (by omega)] at q5
    exact ⟨q1, q2, q3, by omega, by omega, q5⟩
  refine ⟨fun z => ?_, fun z => ⟨fun z1 => ?_, fun z1 => ⟨fun z2 => ?_, fun z2 => ⟨fun z3 => ?_, fun z3 => ⟨fun z4 => ?_, fun z4 => ⟨fun z5 => ?_, fun z5 => ?_⟩⟩⟩⟩⟩⟩
  · exact h0 (fun n hq => by have := qb n hq; omega) _ _ _ _ _
  · exact h0 (fun n hq => by have := qb n hq; omega) _ _ _ _ _
  · exact h0 (fun n hq => by have := qb n hq; omega) _ _ _ _ _
  · exact h0 (fun n hq => by have := qb n hq; omega) _ _ _ _ _
  · exact h0 (fun n hq => by have := qb n hq; omega) _ _ _ _ _
  · refine wl_isCh_N hk (fun hno => ⟨fun _ => h0 (fun n hq => ?_) _ _ _ _ _, fun q => absurd rfl q⟩) (fun c hc hs _ => ⟨fun q => absurd q (by decide), fun _ => go b.toNat (by omega) (by omega) (by omega) (by omega) (by omega) (fun _ => ⟨c, hs⟩)⟩)
    obtain ⟨-, -, -, -, -, q6⟩ := qb n hq
    obtain ⟨c, hc⟩ := q6 z5
    rw [hno] at hc; cases hc
  · exact go b.toNat (by omega) (by omega) (by omega) (by omega) (by omega) (fun q => absurd q z5)
theorem wl_leads_N  {Q : Int32 → Int32 → (Nat → Int32) → (Nat → Int32) → (Nat → Int32) → (Nat → Int32) → Prop} {x : Int32} (hN : 500 ≤ N) (hF : ∀ K : Prop, K → wp_X11_ruleInForce_N N rm rl inf K) (hl : LOk l) (hg : GOk (l_k l) g) (hG : cG (l_k l) tn od bk br lp g) (hL : ar (l_k l) lv (l_l l)) (hT : ar (l_k l) lr (l_r l)) (ht : g_t g < 10000) 
    (h0 : asC (l_k l) x = none → ∀ t o b r p, Q (-1) t o b r p) (h1 : ∀ c, asC (l_k l) x = some c → ∀ t o b r p, Q (a200 g (pLd l none g c)) t o b r p) : wp_X11_leads_N N rm rl (jn (l_s l)) (jn (l_k l)) lv lr tn od bk br lp inf Q x tn' od' bk' br' lp' := by
  have hk := hl.2.2.1
  unfold wp_X11_leads_N
  refine wl_isCh_N hk (fun hno => ⟨fun _ => h0 hno _ _ _ _ _, fun q => absurd rfl q⟩) (fun c hc hs hx => ⟨fun q => absurd q (by decide), fun _ => ?_⟩)
  have hQ := h1 c hs
  subst hx
  refine wl_takeG (fun o b r p e1 e2 e3 e4 => ?_)
  have key : ∀ (k i : Nat) (v2 tn' : Int32) (od' br' lp' : Nat → Int32), v2 = jn (i : Int) → i ≤ 200 → cG (l_k l) tn' od' b br' lp' (tI l none i g) → (∀ j, j < i → pLd l none g c j = false) → 200 < k + i → wp_X11_leads_N_26 N rm rl (jn (l_s l)) (jn (l_k l)) lv lr tn od bk br lp inf Q k (jn (c : Int)) v2 tn' od' b br' lp' := by
    intro k
    induction k with
    | zero => intro i v2 tn' od' br' lp' _ h1 _ _ h2; omega
    | succ k ih =>
      intro i v2 tn' od' br' lp' e hi hG' hno hk'
      subst e
      unfold wp_X11_leads_N_26
      have hgi := tI_ok (r := none) hl (n := i) hg
      have hti := tI_t (l := l) (r := none) (n := i) (g := g)
      refine ⟨fun z => ?_, fun z => hF _ ?_⟩
      · simp (disch := omega) only [jn_le, jn_lt, jn_eq, jn_in, jn_add, jn_sub, jn_mul, jn_neg, li_0, li_1, li_2, li_3, li_4, li_5, li_6, li_7, li_8, li_9, li_10, li_11, li_12, li_13, li_14, li_15, li_16, li_17, li_18, li_20, li_24, li_29, li_30, li_31, li_32, li_37, li_39, li_40, li_42, li_43, li_45, li_46, li_47, li_48, li_53, li_57, li_59, li_60, li_61, li_62, li_63, li_80, li_81, li_91, li_93, li_97, li_100, li_122, li_200, li_255, li_256, li_257, li_258, li_259, li_260, li_300, li_314, li_400, li_580, li_999, li_5040, li_9999, li_65536, li_99999, li_7654321] at z
        have e : i = 200 := by omega
        subst e
        have hf := fst_no hno
        unfold a200 at hQ
        rw [if_pos hf] at hQ
        exact hQ _ _ _ _ _
      · simp (disch := omega) only [jn_le, jn_lt, jn_eq, jn_in, jn_add, jn_sub, jn_mul, jn_neg, li_0, li_1, li_2, li_3, li_4, li_5, li_6, li_7, li_8, li_9, li_10, li_11, li_12, li_13, li_14, li_15, li_16, li_17, li_18, li_20, li_24, li_29, li_30, li_31, li_32, li_37, li_39, li_40, li_42, li_43, li_45, li_46, li_47, li_48, li_53, li_57, li_59, li_60, li_61, li_62, li_63, li_80, li_81, li_91, li_93, li_97, li_100, li_122, li_200, li_255, li_256, li_257, li_258, li_259, li_260, li_300, li_314, li_400, li_580, li_999, li_5040, li_9999, li_65536, li_99999, li_7654321] at z
        refine wl_pt_N (by omega) hl hgi hG' hL hT (by omega) (fun t o r p a1 => ?_)
        rw [← tI_add] at a1
        have hgs := tI_ok (r := none) hl (n := i + 1) hg
        refine wl_whoIsFirst hk a1.2.1 ?_
        rw [if_neg (by omega)]
        have b0 := hgs.1.1 0 (by omega)
        rw [jn_eq (by omega) (by omega)]
        refine ⟨fun y => ?_, fun y => ?_⟩
        · have hf := fst_is (P := pLd l none g c) (show i < 200 by omega) (decide_eq_true (by omega)) hno
          unfold a200 at hQ
          rw [hf, if_neg (by omega)] at hQ
          have := hQ t o b r p
          rwa [show tn + jn (i : Int) = jn ((g_t g + i : Nat) : Int) from by rw [hG.1]; exact by (first | rfl | (simp (disch := omega) only [jn_add, jn_sub, jn_mul, jn_neg, li_0, li_1, li_2, li_3, li_4, li_5, li_6, li_7, li_8, li_9, li_10, li_11, li_12, li_13, li_14, li_15, li_16, li_17, li_18, li_20, li_24, li_29, li_30, li_31, li_32, li_37, li_39, li_40, li_42, li_43, li_45, li_46, li_47, li_48, li_53, li_57, li_59, li_60, li_61, li_62, li_63, li_80, li_81, li_91, li_93, li_97, li_100, li_122, li_200, li_255, li_256, li_257, li_258, li_259, li_260, li_300, li_314, li_400, li_580, li_999, li_5040, li_9999, li_65536, li_99999, li_7654321] <;> first | rfl | exact congrArg jn (by omega)) | exact congrArg jn (by omega))]
        · refine ih (i + 1) _ _ _ _ _ (by (first | rfl | (simp (disch := omega) only [jn_add, jn_sub, jn_mul, jn_neg, li_0, li_1, li_2, li_3, li_4, li_5, li_6, li_7, li_8, li_9, li_10, li_11, li_12, li_13, li_14, li_15, li_16, li_17, li_18, li_20, li_24, li_29, li_30, li_31, li_32, li_37, li_39, li_40, li_42, li_43, li_45, li_46, li_47, li_48, li_53, li_57, li_59, li_60, li_61, li_62, li_63, li_80, li_81, li_91, li_93, li_97, li_100, li_122, li_200, li_255, li_256, li_257, li_258, li_259, li_260, li_300, li_314, li_400, li_580, li_999, li_5040, li_9999, li_65536, li_99999, li_7654321] <;> first | rfl | exact congrArg jn (by omega)) | exact congrArg jn (by omega))) (by omega) a1 (fun j hj => ?_) (by omega)
          by_cases e : j = i
          · subst e; exact decide_eq_false (by omega)
          · exact hno j (by omega)
  exact key N 0 _ _ _ _ _ rfl (by omega) (cG_of hk hG e1 e2 e3 e4) (fun j hj => by omega) (by omega)
theorem wl_stuck_N  {Q : Int32 → Int32 → (Nat → Int32) → (Nat → Int32) → (Nat → Int32) → (Nat → Int32) → Prop} (hN : 500 ≤ N) (hF : ∀ K : Prop, K → wp_X11_ruleInForce_N N rm rl inf K) (hl : LOk l) (hg : GOk (l_k l) g) (hG : cG (l_k l) tn od bk br lp g) (hL : ar (l_k l) lv (l_l l)) (hT : ar (l_k l) lr (l_r l)) (ht : g_t g < 10000) 
    (h0 : l_t l = 0 → ∀ t o b r p, Q (-1) t o b r p) (h1 : l_t l = 1 → ∀ t o b r p, Q (a200 g (pSt l none g)) t o b r p) : wp_X11_stuck_N N rm rl (jn (l_t l)) (jn (l_s l)) (jn (l_k l)) lv lr tn od bk br lp inf Q tn' od' bk' br' lp' := by
  have hk := hl.2.2.1
  have hl1 := hl.1
  unfold wp_X11_stuck_N
  rw [li_0, jn_eq (by omega) (by omega)]
  refine ⟨fun z => h0 (by omega) _ _ _ _ _, fun z => ?_⟩
  have hQ := h1 (by omega)
  refine wl_takeG (fun o b r p e1 e2 e3 e4 => ?_)
  have key : ∀ (k i : Nat) (v2 tn' : Int32) (od' br' lp' : Nat → Int32), v2 = jn (i : Int) → i ≤ 200 → cG (l_k l) tn' od' b br' lp' (tI l none i g) → (∀ j, j < i → pSt l none g j = false) → 200 < k + i → wp_X11_stuck_N_31 N rm rl (jn (l_t l)) (jn (l_s l)) (jn (l_k l)) lv lr tn od bk br lp inf Q k v2 tn' od' b br' lp' := by
    intro k
    induction k with
    | zero => intro i v2 tn' od' br' lp' _ h1 _ _ h2; omega
    | succ k ih =>
      intro i v2 tn' od' br' lp' e hi hG' hno hk'
      subst e
      unfold wp_X11_stuck_N_31
      have hgi := tI_ok (r := none) hl (n := i) hg
      have hti := tI_t (l := l) (r := none) (n := i) (g := g)
      refine ⟨fun z => ?_, fun z => hF _ ?_⟩
      · simp (disch := omega) only [jn_le, jn_lt, jn_eq, jn_in, jn_add, jn_sub, jn_mul, jn_neg, li_0, li_1, li_2, li_3, li_4, li_5, li_6, li_7, li_8, li_9, li_10, li_11, li_12, li_13, li_14, li_15, li_16, li_17, li_18, li_20, li_24, li_29, li_30, li_31, li_32, li_37, li_39, li_40, li_42, li_43, li_45, li_46, li_47, li_48, li_53, li_57, li_59, li_60, li_61, li_62, li_63, li_80, li_81, li_91, li_93, li_97, li_100, li_122, li_200, li_255, li_256, li_257, li_258, li_259, li_260, li_300, li_314, li_400, li_580, li_999, li_5040, li_9999, li_65536, li_99999, li_7654321] at z
        have e : i = 200 := by omega
        subst e
        have hf := fst_no hno
        unfold a200 at hQ
        rw [if_pos hf] at hQ
        exact hQ _ _ _ _ _
      · simp (disch := omega) only [jn_le, jn_lt, jn_eq, jn_in, jn_add, jn_sub, jn_mul, jn_neg, li_0, li_1, li_2, li_3, li_4, li_5, li_6, li_7, li_8, li_9, li_10, li_11, li_12, li_13, li_14, li_15, li_16, li_17, li_18, li_20, li_24, li_29, li_30, li_31, li_32, li_37, li_39, li_40, li_42, li_43, li_45, li_46, li_47, li_48, li_53, li_57, li_59, li_60, li_61, li_62, li_63, li_80, li_81, li_91, li_93, li_97, li_100, li_122, li_200, li_255, li_256, li_257, li_258, li_259, li_260, li_300, li_314, li_400, li_580, li_999, li_5040, li_9999, li_65536, li_99999, li_7654321] at z
        refine wl_pt_N (by omega) hl hgi hG' hL hT (by omega) (fun t o r p a1 => ?_)
        rw [← tI_add] at a1
        rw [tR_nob hk]
        refine ⟨fun y => ?_, fun y => ?_⟩
        · have hf := fst_is (P := pSt l none g) (show i < 200 by omega) (by unfold pSt; rw [y]; rfl) hno
          unfold a200 at hQ
          rw [hf, if_neg (by omega)] at hQ
          have := hQ t o b r p
          rwa [show tn + jn (i : Int) = jn ((g_t g + i : Nat) : Int) from by rw [hG.1]; exact by (first | rfl | (simp (disch := omega) only [jn_add, jn_sub, jn_mul, jn_neg, li_0, li_1, li_2, li_3, li_4, li_5, li_6, li_7, li_8, li_9, li_10, li_11, li_12, li_13, li_14, li_15, li_16, li_17, li_18, li_20, li_24, li_29, li_30, li_31, li_32, li_37, li_39, li_40, li_42, li_43, li_45, li_46, li_47, li_48, li_53, li_57, li_59, li_60, li_61, li_62, li_63, li_80, li_81, li_91, li_93, li_97, li_100, li_122, li_200, li_255, li_256, li_257, li_258, li_259, li_260, li_300, li_314, li_400, li_580, li_999, li_5040, li_9999, li_65536, li_99999, li_7654321] <;> first | rfl | exact congrArg jn (by omega)) | exact congrArg jn (by omega))]
        · refine ih (i + 1) _ _ _ _ _ (by (first | rfl | (simp (disch := omega) only [jn_add, jn_sub, jn_mul, jn_neg, li_0, li_1, li_2, li_3, li_4, li_5, li_6, li_7, li_8, li_9, li_10, li_11, li_12, li_13, li_14, li_15, li_16, li_17, li_18, li_20, li_24, li_29, li_30, li_31, li_32, li_37, li_39, li_40, li_42, li_43, li_45, li_46, li_47, li_48, li_53, li_57, li_59, li_60, li_61, li_62, li_63, li_80, li_81, li_91, li_93, li_97, li_100, li_122, li_200, li_255, li_256, li_257, li_258, li_259, li_260, li_300, li_314, li_400, li_580, li_999, li_5040, li_9999, li_65536, li_99999, li_7654321] <;> first | rfl | exact congrArg jn (by omega)) | exact congrArg jn (by omega))) (by omega) a1 (fun j hj => ?_) (by omega)
          by_cases e : j = i
          · subst e
            unfold pSt
            cases hw : tW l none (tI l none j g) with
            | none => exact absurd hw y
            | some c => rfl
          · exact hno j (by omega)
  exact key N 0 _ _ _ _ _ rfl (by omega) (cG_of hk hG e1 e2 e3 e4) (fun j hj => by omega) (by omega)
theorem wl_ahead_R {f : (Nat → Int64) → Int64} {code : Nat → Int32} {len : Nat} {u pl : Nat → Int64} {Q : Int32 → (Nat → Int64) → (Nat → Int64) → Int32 → (Nat → Int32) → (Nat → Int32) → (Nat → Int32) → (Nat → Int32) → Prop} {x y w : Int32} (hN : 500 ≤ N) (hF : ∀ K : Prop, K → wp_X11_ruleInForce_R N rm rl inf K) (hl : LOk l) (hg : GOk (l_k l) g) (hG : cG (l_k l) tn od bk br lp g) (hL : ar (l_k l) lv (l_l l)) (hT : ar (l_k l) lr (l_r l)) (ht : g_t g < 10000) (hf : ROk (some f)) (hR : cR N code len f)
    (h0 : (∀ n, ¬ qAh l x y w n) → ∀ u pl t o b r p, Q (-1) u pl t o b r p) (h1 : ∀ n, qAh l x y w n → ∀ u pl t o b r p, Q (aAh l (some f) g x n w) u pl t o b r p) : wp_X11_ahead_R N rm rl (jn (l_t l)) (jn (l_s l)) (jn (l_k l)) lv lr tn od bk br lp inf code len Q x y w u pl tn' od' bk' br' lp' := by
  have hk := hl.2.2.1
  obtain ⟨b, rfl, hb⟩ := jn_of y
  obtain ⟨d, rfl, hd⟩ := jn_of w
  unfold wp_X11_ahead_R wp_X11_ahead_R_45
  have go : ∀ n : Nat, b = n → l_t l = 1 → n ≤ 100 → 0 ≤ d → d ≤ 2 → (d = 1 → ∃ c, asC (l_k l) x = some c) → wp_X11_ahead_R_47 N rm rl (jn (l_t l)) (jn (l_s l)) (jn (l_k l)) lv lr tn od bk br lp inf code len Q x (jn b) (jn d) u pl tn' od' bk' br' lp' := by
    intro n e ht1 hn h3 h4 h5
    subst e
    have hq : qAh l x (jn (n : Int)) (jn d) n := ⟨ht1, rfl, hn, by
      rw [li_0, li_1, li_2, jn_eq (by omega) (by omega), jn_eq (by omega) (by omega), jn_eq (by omega) (by omega)]; omega, fun z => h5 (by rw [li_1, jn_eq (by omega) (by omega)] at z; exact z)⟩
    have hQ := h1 n hq
    unfold wp_X11_ahead_R_47
    refine wl_takeG (fun o b r p e1 e2 e3 e4 => ?_)
    refine wl_po_R hN (by omega) rfl hF hl hg (cG_of hk hG e1 e2 e3 e4) hL hT (by omega) hf hR (fun u pl t o r p a1 => ?_)
    unfold aAh at hQ
    refine ⟨fun z => ?_, fun z => ⟨fun z1 => ?_, fun z1 => ?_⟩⟩
    · rw [if_pos z] at hQ
      exact wl_orderNumber hk (by omega) a1.2.1 (hQ _ _ _ _ _ _ _)
    · rw [if_neg z, if_pos z1] at hQ
      rw [li_1, jn_eq (by omega) (by omega)] at z1
      obtain ⟨c, hc⟩ := h5 z1
      rw [hc] at hQ
      obtain ⟨c1, c2⟩ := asC_some hc
      subst c2
      refine ⟨by simp (disch := omega) only [jn_le, jn_lt, jn_eq, jn_in, jn_add, jn_sub, jn_mul, jn_neg, li_0, li_1, li_2, li_3, li_4, li_5, li_6, li_7, li_8, li_9, li_10, li_11, li_12, li_13, li_14, li_15, li_16, li_17, li_18, li_20, li_24, li_29, li_30, li_31, li_32, li_37, li_39, li_40, li_42, li_43, li_45, li_46, li_47, li_48, li_53, li_57, li_59, li_60, li_61, li_62, li_63, li_80, li_81, li_91, li_93, li_97, li_100, li_122, li_200, li_255, li_256, li_257, li_258, li_259, li_260, li_300, li_314, li_400, li_580, li_999, li_5040, li_9999, li_65536, li_99999, li_7654321] <;> omega, ?_⟩
      rw [jn_cln (by omega), a1.2.2.2.1 c c1]
      exact hQ _ _ _ _ _ _ _
    · rw [if_neg z, if_neg z1] at hQ
      exact wl_allLeapt hk (by omega) a1.2.2.2.2 (hQ _ _ _ _ _ _ _)
  have no : ∀ P : Prop, (∀ n, qAh l x (jn b) (jn d) n → P) → ¬ P → ∀ u pl t o b r p, Q (-1) u pl t o b r p := fun P h3 h4 => h0 (fun n hq => h4 (h3 n hq))
  have hl1 := hl.1
  rw [li_0, li_100, li_1, li_2, jn_eq (by omega) (by omega), jn_lt hb (by omega), jn_lt (by omega) hb, jn_lt hd (by omega), jn_lt (by omega) hd, jn_eq hd (by omega)]
  have qb : ∀ n, qAh l x (jn b) (jn d) n → l_t l = 1 ∧ b = n ∧ n ≤ 100 ∧ 0 ≤ d ∧ d ≤ 2 ∧ (d = 1 → ∃ c, asC (l_k l) x = some c) := by
    rintro n ⟨q1, q2, q3, q4, q5⟩
    rw [jn_eq hb (by omega)] at q2
    rw [li_0, li_1, li_2, jn_eq hd (by omega), jn_eq hd (by omega), jn_eq hd (by omega)] at q4
    rw [li_1, jn_eq hd (by omega)] at q5
    exact ⟨q1, q2, q3, by omega, by omega, q5⟩
  refine ⟨fun z => ?_, fun z => ⟨fun z1 => ?_, fun z1 => ⟨fun z2 => ?_, fun z2 => ⟨fun z3 => ?_, fun z3 => ⟨fun z4 => ?_, fun z4 => ⟨fun z5 => ?_, fun z5 => ?_⟩⟩⟩⟩⟩⟩
  · exact h0 (fun n hq => by have := qb n hq; omega) _ _ _ _ _ _ _
  · exact h0 (fun n hq => by have := qb n hq; omega) _ _ _ _ _ _ _
  · exact h0 (fun n hq => by have := qb n hq; omega) _ _ _ _ _ _ _
  · exact h0 (fun n hq => by have := qb n hq; omega) _ _ _ _ _ _ _
  · exact h0 (fun n hq => by have := qb n hq; omega) _ _ _ _ _ _ _
  · refine wl_isCh_R hk (fun hno => ⟨fun _ => h0 (fun n hq => ?_) _ _ _ _ _ _ _, fun q => absurd rfl q⟩) (fun c hc hs _ => ⟨fun q => absurd q (by decide), fun _ => go b.toNat (by omega) (by omega) (by omega) (by omega) (by omega) (fun _ => ⟨c, hs⟩)⟩)
    obtain ⟨-, -, -, -, -, q6⟩ := qb n hq
    obtain ⟨c, hc⟩ := q6 z5
    rw [hno] at hc; cases hc
  · exact go b.toNat (by omega) (by omega) (by omega) (by omega) (by omega) (fun q => absurd q z5)
theorem wl_leads_R {f : (Nat → Int64) → Int64} {code : Nat → Int32} {len : Nat} {u pl : Nat → Int64} {Q : Int32 → (Nat → Int64) → (Nat → Int64) → Int32 → (Nat → Int32) → (Nat → Int32) → (Nat → Int32) → (Nat → Int32) → Prop} {x : Int32} (hN : 500 ≤ N) (hF : ∀ K : Prop, K → wp_X11_ruleInForce_R N rm rl inf K) (hl : LOk l) (hg : GOk (l_k l) g) (hG : cG (l_k l) tn od bk br lp g) (hL : ar (l_k l) lv (l_l l)) (hT : ar (l_k l) lr (l_r l)) (ht : g_t g < 10000) (hf : ROk (some f)) (hR : cR N code len f)
    (h0 : asC (l_k l) x = none → ∀ u pl t o b r p, Q (-1) u pl t o b r p) (h1 : ∀ c, asC (l_k l) x = some c → ∀ u pl t o b r p, Q (a200 g (pLd l (some f) g c)) u pl t o b r p) : wp_X11_leads_R N rm rl (jn (l_s l)) (jn (l_k l)) lv lr tn od bk br lp inf code len Q x u pl tn' od' bk' br' lp' := by
  have hk := hl.2.2.1
  unfold wp_X11_leads_R
  refine wl_isCh_R hk (fun hno => ⟨fun _ => h0 hno _ _ _ _ _ _ _, fun q => absurd rfl q⟩) (fun c hc hs hx => ⟨fun q => absurd q (by decide), fun _ => ?_⟩)
  have hQ := h1 c hs
  subst hx
  refine wl_takeG (fun o b r p e1 e2 e3 e4 => ?_)
  have key : ∀ (k i : Nat) (v2 tn' : Int32) (u pl : Nat → Int64) (od' br' lp' : Nat → Int32), v2 = jn (i : Int) → i ≤ 200 → cG (l_k l) tn' od' b br' lp' (tI l (some f) i g) → (∀ j, j < i → pLd l (some f) g c j = false) → 200 < k + i → wp_X11_leads_R_26 N rm rl (jn (l_s l)) (jn (l_k l)) lv lr tn od bk br lp inf code len Q k (jn (c : Int)) v2 u pl tn' od' b br' lp' := by
    intro k
    induction k with
    | zero => intro i v2 tn' u pl od' br' lp' _ h1 _ _ h2; omega
    | succ k ih =>
      intro i v2 tn' u pl od' br' lp' e hi hG' hno hk'
      subst e
      unfold wp_X11_leads_R_26
      have hgi := tI_ok (r := (some f)) hl (n := i) hg
      have hti := tI_t (l := l) (r := (some f)) (n := i) (g := g)
      refine ⟨fun z => ?_, fun z => hF _ ?_⟩
      · simp (disch := omega) only [jn_le, jn_lt, jn_eq, jn_in, jn_add, jn_sub, jn_mul, jn_neg, li_0, li_1, li_2, li_3, li_4, li_5, li_6, li_7, li_8, li_9, li_10, li_11, li_12, li_13, li_14, li_15, li_16, li_17, li_18, li_20, li_24, li_29, li_30, li_31, li_32, li_37, li_39, li_40, li_42, li_43, li_45, li_46, li_47, li_48, li_53, li_57, li_59, li_60, li_61, li_62, li_63, li_80, li_81, li_91, li_93, li_97, li_100, li_122, li_200, li_255, li_256, li_257, li_258, li_259, li_260, li_300, li_314, li_400, li_580, li_999, li_5040, li_9999, li_65536, li_99999, li_7654321] at z
        have e : i = 200 := by omega
        subst e
        have hf := fst_no hno
        unfold a200 at hQ
        rw [if_pos hf] at hQ
        exact hQ _ _ _ _ _ _ _
      · simp (disch := omega) only [jn_le, jn_lt, jn_eq, jn_in, jn_add, jn_sub, jn_mul, jn_neg, li_0, li_1, li_2, li_3, li_4, li_5, li_6, li_7, li_8, li_9, li_10, li_11, li_12, li_13, li_14, li_15, li_16, li_17, li_18, li_20, li_24, li_29, li_30, li_31, li_32, li_37, li_39, li_40, li_42, li_43, li_45, li_46, li_47, li_48, li_53, li_57, li_59, li_60, li_61, li_62, li_63, li_80, li_81, li_91, li_93, li_97, li_100, li_122, li_200, li_255, li_256, li_257, li_258, li_259, li_260, li_300, li_314, li_400, li_580, li_999, li_5040, li_9999, li_65536, li_99999, li_7654321] at z
        refine wl_pt_R (by omega) hl hgi hG' hL hT (by omega) hf hR (fun u pl t o r p a1 => ?_)
        rw [← tI_add] at a1
        have hgs := tI_ok (r := (some f)) hl (n := i + 1) hg
        refine wl_whoIsFirst hk a1.2.1 ?_
        rw [if_neg (by omega)]
        have b0 := hgs.1.1 0 (by omega)
        rw [jn_eq (by omega) (by omega)]
        refine ⟨fun y => ?_, fun y => ?_⟩
        · have hf := fst_is (P := pLd l (some f) g c) (show i < 200 by omega) (decide_eq_true (by omega)) hno
          unfold a200 at hQ
          rw [hf, if_neg (by omega)] at hQ
          have := hQ u pl t o b r p
          rwa [show tn + jn (i : Int) = jn ((g_t g + i : Nat) : Int) from by rw [hG.1]; exact by (first | rfl | (simp (disch := omega) only [jn_add, jn_sub, jn_mul, jn_neg, li_0, li_1, li_2, li_3, li_4, li_5, li_6, li_7, li_8, li_9, li_10, li_11, li_12, li_13, li_14, li_15, li_16, li_17, li_18, li_20, li_24, li_29, li_30, li_31, li_32, li_37, li_39, li_40, li_42, li_43, li_45, li_46, li_47, li_48, li_53, li_57, li_59, li_60, li_61, li_62, li_63, li_80, li_81, li_91, li_93, li_97, li_100, li_122, li_200, li_255, li_256, li_257, li_258, li_259, li_260, li_300, li_314, li_400, li_580, li_999, li_5040, li_9999, li_65536, li_99999, li_7654321] <;> first | rfl | exact congrArg jn (by omega)) | exact congrArg jn (by omega))]
        · refine ih (i + 1) _ _ _ _ _ _ _ (by (first | rfl | (simp (disch := omega) only [jn_add, jn_sub, jn_mul, jn_neg, li_0, li_1, li_2, li_3, li_4, li_5, li_6, li_7, li_8, li_9, li_10, li_11, li_12, li_13, li_14, li_15, li_16, li_17, li_18, li_20, li_24, li_29, li_30, li_31, li_32, li_37, li_39, li_40, li_42, li_43, li_45, li_46, li_47, li_48, li_53, li_57, li_59, li_60, li_61, li_62, li_63, li_80, li_81, li_91, li_93, li_97, li_100, li_122, li_200, li_255, li_256, li_257, li_258, li_259, li_260, li_300, li_314, li_400, li_580, li_999, li_5040, li_9999, li_65536, li_99999, li_7654321] <;> first | rfl | exact congrArg jn (by omega)) | exact congrArg jn (by omega))) (by omega) a1 (fun j hj => ?_) (by omega)
          by_cases e : j = i
          · subst e; exact decide_eq_false (by omega)
          · exact hno j (by omega)
  exact key N 0 _ _ _ _ _ _ _ rfl (by omega) (cG_of hk hG e1 e2 e3 e4) (fun j hj => by omega) (by omega)
theorem wl_stuck_R {f : (Nat → Int64) → Int64} {code : Nat → Int32} {len : Nat} {u pl : Nat → Int64} {Q : Int32 → (Nat → Int64) → (Nat → Int64) → Int32 → (Nat → Int32) → (Nat → Int32) → (Nat → Int32) → (Nat → Int32) → Prop} (hN : 500 ≤ N) (hF : ∀ K : Prop, K → wp_X11_ruleInForce_R N rm rl inf K) (hl : LOk l) (hg : GOk (l_k l) g) (hG : cG (l_k l) tn od bk br lp g) (hL : ar (l_k l) lv (l_l l)) (hT : ar (l_k l) lr (l_r l)) (ht : g_t g < 10000) (hf : ROk (some f)) (hR : cR N code len f)
    (h0 : l_t l = 0 → ∀ u pl t o b r p, Q (-1) u pl t o b r p) (h1 : l_t l = 1 → ∀ u pl t o b r p, Q (a200 g (pSt l (some f) g)) u pl t o b r p) : wp_X11_stuck_R N rm rl (jn (l_t l)) (jn (l_s l)) (jn (l_k l)) lv lr tn od bk br lp inf code len Q u pl tn' od' bk' br' lp' := by
  have hk := hl.2.2.1
  have hl1 := hl.1
  unfold wp_X11_stuck_R
  rw [li_0, jn_eq (by omega) (by omega)]
  refine ⟨fun z => h0 (by omega) _ _ _ _ _ _ _, fun z => ?_⟩
  have hQ := h1 (by omega)
  refine wl_takeG (fun o b r p e1 e2 e3 e4 => ?_)
  have key : ∀ (k i : Nat) (v2 tn' : Int32) (u pl : Nat → Int64) (od' br' lp' : Nat → Int32), v2 = jn (i : Int) → i ≤ 200 → cG (l_k l) tn' od' b br' lp' (tI l (some f) i g) → (∀ j, j < i → pSt l (some f) g j = false) → 200 < k + i → wp_X11_stuck_R_31 N rm rl (jn (l_t l)) (jn (l_s l)) (jn (l_k l)) lv lr tn od bk br lp inf code len Q k v2 u pl tn' od' b br' lp' := by
    intro k
    induction k with
    | zero => intro i v2 tn' u pl od' br' lp' _ h1 _ _ h2; omega
    | succ k ih =>
      intro i v2 tn' u pl od' br' lp' e hi hG' hno hk'
      subst e
      unfold wp_X11_stuck_R_31
      have hgi := tI_ok (r := (some f)) hl (n := i) hg
      have hti := tI_t (l := l) (r := (some f)) (n := i) (g := g)
      refine ⟨fun z => ?_, fun z => hF _ ?_⟩
      · simp (disch := omega) only [jn_le, jn_lt, jn_eq, jn_in, jn_add, jn_sub, jn_mul, jn_neg, li_0, li_1, li_2, li_3, li_4, li_5, li_6, li_7, li_8, li_9, li_10, li_11, li_12, li_13, li_14, li_15, li_16, li_17, li_18, li_20, li_24, li_29, li_30, li_31, li_32, li_37, li_39, li_40, li_42, li_43, li_45, li_46, li_47, li_48, li_53, li_57, li_59, li_60, li_61, li_62, li_63, li_80, li_81, li_91, li_93, li_97, li_100, li_122, li_200, li_255, li_256, li_257, li_258, li_259, li_260, li_300, li_314, li_400, li_580, li_999, li_5040, li_9999, li_65536, li_99999, li_7654321] at z
        have e : i = 200 := by omega
        subst e
        have hf := fst_no hno
        unfold a200 at hQ
        rw [if_pos hf] at hQ
        exact hQ _ _ _ _ _ _ _
      · simp (disch := omega) only [jn_le, jn_lt, jn_eq, jn_in, jn_add, jn_sub, jn_mul, jn_neg, li_0, li_1, li_2, li_3, li_4, li_5, li_6, li_7, li_8, li_9, li_10, li_11, li_12, li_13, li_14, li_15, li_16, li_17, li_18, li_20, li_24, li_29, li_30, li_31, li_32, li_37, li_39, li_40, li_42, li_43, li_45, li_46, li_47, li_48, li_53, li_57, li_59, li_60, li_61, li_62, li_63, li_80, li_81, li_91, li_93, li_97, li_100, li_122, li_200, li_255, li_256, li_257, li_258, li_259, li_260, li_300, li_314, li_400, li_580, li_999, li_5040, li_9999, li_65536, li_99999, li_7654321] at z
        refine wl_pt_R (by omega) hl hgi hG' hL hT (by omega) hf hR (fun u pl t o r p a1 => ?_)
        rw [← tI_add] at a1
        rw [tR_nob hk]
        refine ⟨fun y => ?_, fun y => ?_⟩
        · have hf := fst_is (P := pSt l (some f) g) (show i < 200 by omega) (by unfold pSt; rw [y]; rfl) hno
          unfold a200 at hQ
          rw [hf, if_neg (by omega)] at hQ
          have := hQ u pl t o b r p
          rwa [show tn + jn (i : Int) = jn ((g_t g + i : Nat) : Int) from by rw [hG.1]; exact by (first | rfl | (simp (disch := omega) only [jn_add, jn_sub, jn_mul, jn_neg, li_0, li_1, li_2, li_3, li_4, li_5, li_6, li_7, li_8, li_9, li_10, li_11, li_12, li_13, li_14, li_15, li_16, li_17, li_18, li_20, li_24, li_29, li_30, li_31, li_32, li_37, li_39, li_40, li_42, li_43, li_45, li_46, li_47, li_48, li_53, li_57, li_59, li_60, li_61, li_62, li_63, li_80, li_81, li_91, li_93, li_97, li_100, li_122, li_200, li_255, li_256, li_257, li_258, li_259, li_260, li_300, li_314, li_400, li_580, li_999, li_5040, li_9999, li_65536, li_99999, li_7654321] <;> first | rfl | exact congrArg jn (by omega)) | exact congrArg jn (by omega))]
        · refine ih (i + 1) _ _ _ _ _ _ _ (by (first | rfl | (simp (disch := omega) only [jn_add, jn_sub, jn_mul, jn_neg, li_0, li_1, li_2, li_3, li_4, li_5, li_6, li_7, li_8, li_9, li_10, li_11, li_12, li_13, li_14, li_15, li_16, li_17, li_18, li_20, li_24, li_29, li_30, li_31, li_32, li_37, li_39, li_40, li_42, li_43, li_45, li_46, li_47, li_48, li_53, li_57, li_59, li_60, li_61, li_62, li_63, li_80, li_81, li_91, li_93, li_97, li_100, li_122, li_200, li_255, li_256, li_257, li_258, li_259, li_260, li_300, li_314, li_400, li_580, li_999, li_5040, li_9999, li_65536, li_99999, li_7654321] <;> first | rfl | exact congrArg jn (by omega)) | exact congrArg jn (by omega))) (by omega) a1 (fun j hj => ?_) (by omega)
          by_cases e : j = i
          · subst e
            unfold pSt
            cases hw : tW l (some f) (tI l (some f) j g) with
            | none => exact absurd hw y
            | some c => rfl
          · exact hno j (by omega)
  exact key N 0 _ _ _ _ _ _ _ rfl (by omega) (cG_of hk hG e1 e2 e3 e4) (fun j hj => by omega) (by omega)
end CAH
