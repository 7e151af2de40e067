/-! given, both -/
def gvB (g : gS) (c b : Nat) : gS := (g_t g, g_o g, g_b g, un (g_r g) c (min 60 (g_r g c + b)), g_p g)
def gvG (g : gS) : Option Nat → gS
  | none => g
  | some c => gvB g c 5
def gvF (l : lS) (r : rS) (g : gS) (n : Nat) (c : Option Nat) : Nat := sumTo (g_p (tI l r n (gvG g c))) (l_k l)
def gvS (F : Nat → Nat) (m : Nat) : Nat → Int × Nat
  | 0 => (-1, m)
  | c + 1 => if (gvS F m c).2 < F c then ((c : Int), F c) else gvS F m c
def qGv (l : lS) (x w : Int32) (n : Nat) : Prop := l_t l = 1 ∧ x = jn (n : Int) ∧ 1 ≤ n ∧ n ≤ 40 ∧ (w = 0 ∨ w = 1)
def gvA (l : lS) (r : rS) (g : gS) (n : Nat) : Int × Nat := gvS (fun c => gvF l r g n (some c)) (gvF l r g n none) (l_k l)
def aGv (l : lS) (r : rS) (g : gS) (n : Nat) (w : Int32) : Int32 := if w = 0 then jn (gvA l r g n).1 else jn ((gvA l r g n).2 : Int)
theorem gvB_ok {k : Nat} {g : gS} {c b : Nat} (h : GOk k g) : GOk k (gvB g c b) := ⟨h.1, h.2.1, fun d => by
  show un (g_r g) c (min 60 (g_r g c + b)) d ≤ 60
  unfold un
  have := h.2.2.1 d
  split <;> omega, h.2.2.2⟩
theorem gvG_ok {k : Nat} {g : gS} {c : Option Nat} (h : GOk k g) : GOk k (gvG g c) := by
  cases c with
  | none => exact h
  | some c => exact gvB_ok h
theorem gvF_le {l : lS} {r : rS} {g : gS} {n : Nat} {c : Option Nat} (hl : LOk l) (h : GOk (l_k l) g) : gvF l r g n c ≤ 6993 := sum7 hl.2.2.1 (tI_ok hl (gvG_ok h))
theorem gvS_b {F : Nat → Nat} {m : Nat} (hF : ∀ c, F c ≤ 6993) (hm : m ≤ 6993) : ∀ {k : Nat}, -1 ≤ (gvS F m k).1 ∧ (gvS F m k).1 < k ∧ (gvS F m k).2 ≤ 6993
  | 0 => ⟨by show (-1 : Int) ≤ -1; omega, by show (-1 : Int) < 0; omega, hm⟩
  | k + 1 => by
    have ih := gvS_b hF hm (k := k)
    have := hF k
    unfold gvS
    split
    · dsimp only; omega
    · omega
section GIV
variable {N n : Nat} {l : lS} {g : gS} {rm inf tn tn' : Int32} {rl : Nat → Option Nat} {lv lr od bk br lp od' bk' br' lp' : Nat → Int32}
theorem wl_lig_N  {Q : Int32 → Int32 → (Nat → Int32) → (Nat → Int32) → (Nat → Int32) → (Nat → Int32) → Prop} {x y : Int32} {c : Option Nat} (hN : 500 ≤ N) (hF : ∀ K : Prop, K → wp_X11_ruleInForce_N N rm rl inf K) (hl : LOk l) (hg : GOk (l_k l) g) (hG : cG (l_k l) tn od bk br lp g) (hL : ar (l_k l) lv (l_l l)) (hT : ar (l_k l) lr (l_r l)) (ht : g_t g < 10000)  (hn : n ≤ 40) (hx : x = jn (oC c)) (hc : ∀ d, c = some d → d < l_k l) (hy : y = jn (n : Int))
    (h1 : ∀ t o b r p, Q (jn (gvF l none g n c : Int)) t o b r p) : wp_X11_leaptIfGiven_N N rm rl (jn (l_s l)) (jn (l_k l)) lv lr tn od bk br lp inf Q x y tn' od' bk' br' lp' := by
  have hk := hl.2.2.1
  unfold wp_X11_leaptIfGiven_N wp_X11_leaptIfGiven_N_28
  refine wl_takeG (fun o b r p e1 e2 e3 e4 => ?_)
  have hG1 := cG_of hk hG e1 e2 e3 e4
  subst hx hy
  have fin : ∀ r', cG (l_k l) tn o b r' p (gvG g c) → wp_X11_playOn_N N rm rl (jn (l_s l)) (jn (l_k l)) lv lr inf b (fun t o r p => wp_X0_allLeapt N p (jn (l_k l)) (fun r13 => Q r13 t o b r p)) (jn (n : Int)) tn o r' p := by
    intro r' hG2
    have htg : g_t (gvG g c) = g_t g := by cases c <;> rfl
    refine wl_po_N hN (by omega) rfl hF hl (gvG_ok hg) hG2 hL hT (by omega) (fun t o r p a1 => ?_)
    exact wl_allLeapt hk (by omega) a1.2.2.2.2 (h1 _ _ _ _ _)
  cases c with
  | none =>
    refine ⟨fun _ => fin _ hG1, fun q => absurd rfl q⟩
  | some c =>
    have hc := hc c rfl
    refine ⟨fun q => ?_, fun _ => ?_⟩
    · rw [show (-1 : Int32) = jn (-1) from rfl, show oC (some c) = (c : Int) from rfl, jn_eq (by omega) (by omega)] at q; omega
    · exact wl_giveBreath hk hG1.2.2.2.1 hc (b := 5) (by omega) (hg.2.2.1 c) rfl rfl (fun r' a => fin r' ⟨hG1.1, hG1.2.1, hG1.2.2.1, a, hG1.2.2.2.2⟩)
theorem wl_given_N  {Q : Int32 → Int32 → (Nat → Int32) → (Nat → Int32) → (Nat → Int32) → (Nat → Int32) → Prop} {x w : Int32} (hN : 500 ≤ N) (hF : ∀ K : Prop, K → wp_X11_ruleInForce_N N rm rl inf K) (hl : LOk l) (hg : GOk (l_k l) g) (hG : cG (l_k l) tn od bk br lp g) (hL : ar (l_k l) lv (l_l l)) (hT : ar (l_k l) lr (l_r l)) (ht : g_t g < 10000) 
    (h0 : (∀ n, ¬ qGv l x w n) → ∀ t o b r p, Q (-2) t o b r p) (h1 : ∀ n, qGv l x w n → ∀ t o b r p, Q (aGv l none g n w) t o b r p) : wp_X11_given_N N rm rl (jn (l_t l)) (jn (l_s l)) (jn (l_k l)) lv lr tn od bk br lp inf Q x w tn' od' bk' br' lp' := by
  have hk := hl.2.2.1
  have hl1 := hl.1
  obtain ⟨b, rfl, hb⟩ := jn_of x
  obtain ⟨d, rfl, hd⟩ := jn_of w
  unfold wp_X11_given_N wp_X11_given_N_33
  rw [li_0, li_40, li_1, jn_eq (by omega) (by omega), jn_lt hb (by omega), jn_lt (by omega) hb, jn_lt hd (by omega), jn_le hd (by omega), ← li_0]
  have qb : ∀ n, qGv l (jn b) (jn d) n → l_t l = 1 ∧ b = n ∧ 1 ≤ n ∧ n ≤ 40 ∧ 0 ≤ d ∧ d ≤ 1 := by
    rintro n ⟨q1, q2, q3, q4, q5⟩
    rw [jn_eq hb (by omega)] at q2
    rw [li_0, li_1, jn_eq hd (by omega), jn_eq hd (by omega)] at q5
    exact ⟨q1, q2, q3, q4, by omega, by omega⟩
  refine ⟨fun z => ?_, fun z => ⟨fun z1 => ?_, fun z1 => ⟨fun z2 => ?_, fun z2 => ⟨fun z3 => ?_, fun z3 => ⟨fun z4 => ?_, fun z4 => ?_⟩⟩⟩⟩⟩
  · exact h0 (fun n hq => by have := qb n hq; omega) _ _ _ _ _
  · exact h0 (fun n hq => by have := qb n hq; omega) _ _ _ _ _
  · exact h0 (fun n hq => by have := qb n hq; omega) _ _ _ _ _
  · exact h0 (fun n hq => by have := qb n hq; omega) _ _ _ _ _
  · obtain ⟨n, rfl⟩ : ∃ n : Nat, b = n := ⟨b.toNat, by omega⟩
    have hQ := h1 n ⟨by omega, rfl, by omega, by omega, by rw [li_0, li_1, jn_eq hd (by omega), jn_eq hd (by omega)]; omega⟩
    refine wl_lig_N (c := none) hN hF hl hg hG hL hT ht (by omega) rfl (fun d q => by cases q) rfl (fun t o b r p => ?_)
    have key : ∀ (k i : Nat) (v3 v4 v5 tn' : Int32) (od' bk' br' lp' : Nat → Int32), v5 = jn (i : Int) → i ≤ l_k l → v3 = jn (gvS (fun c => gvF l none g n (some c)) (gvF l none g n none) i).1 → v4 = jn ((gvS (fun c => gvF l none g n (some c)) (gvF l none g n none) i).2 : Int) → l_k l < k + i → wp_X11_given_N_49 N rm rl (jn (l_t l)) (jn (l_s l)) (jn (l_k l)) lv lr tn od bk br lp inf Q k (jn (n : Int)) (jn d) v3 v4 v5 tn' od' bk' br' lp' := by
      intro k
      induction k with
      | zero => intro i v3 v4 v5 tn' od' bk' br' lp' _ h1 _ _ h2; omega
      | succ k ih =>
        intro i v3 v4 v5 tn' od' bk' br' lp' e5 hi e3 e4 hk'
        subst e5
        have hb := gvS_b (F := fun c => gvF l none g n (some c)) (m := gvF l none g n none) (fun c => gvF_le hl hg) (gvF_le hl hg) (k := i)
        have hbi := gvF_le (r := none) (n := n) (c := some i) hl hg
        unfold wp_X11_given_N_49 wp_X11_given_N_103 wp_X11_given_N_87
        rw [jn_le (by omega) (by omega)]
        refine ⟨fun z => ?_, fun z => ?_⟩
        · have e : i = l_k l := by omega
          subst e
          unfold aGv gvA at hQ
          refine ⟨fun y => ?_, fun y => ?_⟩
          · rw [if_pos y] at hQ; rw [e3]; exact hQ _ _ _ _ _
          · rw [if_neg y] at hQ; rw [e4]; exact hQ _ _ _ _ _
        · refine wl_lig_N (c := some i) hN hF hl hg hG hL hT ht (by omega) rfl (fun d q => by cases q; omega) rfl (fun t o b r p => ?_)
          rw [e4, jn_le (by omega) (by omega)]
          refine ⟨fun y => ?_, fun y => ?_⟩
          · have st : gvS (fun c => gvF l none g n (some c)) (gvF l none g n none) (i + 1) = gvS (fun c => gvF l none g n (some c)) (gvF l none g n none) i := by
              rw [gvS, if_neg (by omega)]
            exact ih (i + 1) _ _ _ _ _ _ _ _ (by (first | rfl | (simp (disch := omega) only [jn_add, jn_sub, jn_mul, jn_neg, li_0, li_1, li_2, li_3, li_4, li_5, li_6, li_7, li_8, li_9, li_10, li_11, li_12, li_13, li_14, li_15, li_16, li_17, li_18, li_20, li_24, li_29, li_30, li_31, li_32, li_37, li_39, li_40, li_42, li_43, li_45, li_46, li_47, li_48, li_53, li_57, li_59, li_60, li_61, li_62, li_63, li_80, li_81, li_91, li_93, li_97, li_100, li_122, li_200, li_255, li_256, li_257, li_258, li_259, li_260, li_300, li_314, li_400, li_580, li_999, li_5040, li_9999, li_65536, li_99999, li_7654321] <;> first | rfl | exact congrArg jn (by omega)) | exact congrArg jn (by omega))) (by omega) (by rw [st]; exact e3) (by rw [st]) (by omega)
          · have st : gvS (fun c => gvF l none g n (some c)) (gvF l none g n none) (i + 1) = ((i : Int), gvF l none g n (some i)) := by
              rw [gvS, if_pos (by omega)]
            exact ih (i + 1) _ _ _ _ _ _ _ _ (by (first | rfl | (simp (disch := omega) only [jn_add, jn_sub, jn_mul, jn_neg, li_0, li_1, li_2, li_3, li_4, li_5, li_6, li_7, li_8, li_9, li_10, li_11, li_12, li_13, li_14, li_15, li_16, li_17, li_18, li_20, li_24, li_29, li_30, li_31, li_32, li_37, li_39, li_40, li_42, li_43, li_45, li_46, li_47, li_48, li_53, li_57, li_59, li_60, li_61, li_62, li_63, li_80, li_81, li_91, li_93, li_97, li_100, li_122, li_200, li_255, li_256, li_257, li_258, li_259, li_260, li_300, li_314, li_400, li_580, li_999, li_5040, li_9999, li_65536, li_99999, li_7654321] <;> first | rfl | exact congrArg jn (by omega)) | exact congrArg jn (by omega))) (by omega) (by rw [st]) (by rw [st]) (by omega)
    exact key N 0 _ _ _ _ _ _ _ _ rfl (by omega) rfl rfl (by omega)
  · exact h0 (fun n hq => by have := qb n hq; omega) _ _ _ _ _
theorem wl_lig_R {f : (Nat → Int64) → Int64} {code : Nat → Int32} {len : Nat} {u pl : Nat → Int64} {Q : Int32 → (Nat → Int64) → (Nat → Int64) → Int32 → (Nat → Int32) → (Nat → Int32) → (Nat → Int32) → (Nat → Int32) → Prop} {x y : Int32} {c : Option Nat} (hN : 500 ≤ N) (hF : ∀ K : Prop, K → wp_X11_ruleInForce_R N rm rl inf K) (hl : LOk l) (hg : GOk (l_k l) g) (hG : cG (l_k l) tn od bk br lp g) (hL : ar (l_k l) lv (l_l l)) (hT : ar (l_k l) lr (l_r l)) (ht : g_t g < 10000) (hf : ROk (some f)) (hR : cR N code len f) (hn : n ≤ 40) (hx : x = jn (oC c)) (hc : ∀ d, c = some d → d < l_k l) (hy : y = jn (n : Int))
    (h1 : ∀ u pl t o b r p, Q (jn (gvF l (some f) g n c : Int)) u pl t o b r p) : wp_X11_leaptIfGiven_R N rm rl (jn (l_s l)) (jn (l_k l)) lv lr tn od bk br lp inf code len Q x y u pl tn' od' bk' br' lp' := by
  have hk := hl.2.2.1
  unfold wp_X11_leaptIfGiven_R wp_X11_leaptIfGiven_R_28
  refine wl_takeG (fun o b r p e1 e2 e3 e4 => ?_)
  have hG1 := cG_of hk hG e1 e2 e3 e4
  subst hx hy
  have fin : ∀ r', cG (l_k l) tn o b r' p (gvG g c) → wp_X11_playOn_R N rm rl (jn (l_s l)) (jn (l_k l)) lv lr inf b code len (fun u pl t o r p => wp_X0_allLeapt N p (jn (l_k l)) (fun r13 => Q r13 u pl t o b r p)) (jn (n : Int)) u pl tn o r' p := by
    intro r' hG2
    have htg : g_t (gvG g c) = g_t g := by cases c <;> rfl
    refine wl_po_R hN (by omega) rfl hF hl (gvG_ok hg) hG2 hL hT (by omega) hf hR (fun u pl t o r p a1 => ?_)
    exact wl_allLeapt hk (by omega) a1.2.2.2.2 (h1 _ _ _ _ _ _ _)
  cases c with
  | none =>
    refine ⟨fun _ => fin _ hG1, fun q => absurd rfl q⟩
  | some c =>
    have hc := hc c rfl
    refine ⟨fun q => ?_, fun _ => ?_⟩
    · rw [show (-1 : Int32) = jn (-1) from rfl, show oC (some c) = (c : Int) from rfl, jn_eq (by omega) (by omega)] at q; omega
    · exact wl_giveBreath hk hG1.2.2.2.1 hc (b := 5) (by omega) (hg.2.2.1 c) rfl rfl (fun r' a => fin r' ⟨hG1.1, hG1.2.1, hG1.2.2.1, a, hG1.2.2.2.2⟩)
theorem wl_given_R {f : (Nat → Int64) → Int64} {code : Nat → Int32} {len : Nat} {u pl : Nat → Int64} {Q : Int32 → (Nat → Int64) → (Nat → Int64) → Int32 → (Nat → Int32) → (Nat → Int32) → (Nat → Int32) → (Nat → Int32) → Prop} {x w : Int32} (hN : 500 ≤ N) (hF : ∀ K : Prop, K → wp_X11_ruleInForce_R N rm rl inf K) (hl : LOk l) (hg : GOk (l_k l) g) (hG : cG (l_k l) tn od bk br lp g) (hL : ar (l_k l) lv (l_l l)) (hT : ar (l_k l) lr (l_r l)) (ht : g_t g < 10000) (hf : ROk (some f)) (hR : cR N code len f)
    (h0 : (∀ n, ¬ qGv l x w n) → ∀ u pl t o b r p, Q (-2) u pl t o b r p) (h1 : ∀ n, qGv l x w n → ∀ u pl t o b r p, Q (aGv l (some f) g n w) u pl t o b r p) : wp_X11_given_R N rm rl (jn (l_t l)) (jn (l_s l)) (jn (l_k l)) lv lr tn od bk br lp inf code len Q x w u pl tn' od' bk' br' lp' := by
  have hk := hl.2.2.1
  have hl1 := hl.1
  obtain ⟨b, rfl, hb⟩ := jn_of x
  obtain ⟨d, rfl, hd⟩ := jn_of w
  unfold wp_X11_given_R wp_X11_given_R_33
  rw [li_0, li_40, li_1, jn_eq (by omega) (by omega), jn_lt hb (by omega), jn_lt (by omega) hb, jn_lt hd (by omega), jn_le hd (by omega), ← li_0]
  have qb : ∀ n, qGv l (jn b) (jn d) n → l_t l = 1 ∧ b = n ∧ 1 ≤ n ∧ n ≤ 40 ∧ 0 ≤ d ∧ d ≤ 1 := by
    rintro n ⟨q1, q2, q3, q4, q5⟩
    rw [jn_eq hb (by omega)] at q2
    rw [li_0, li_1, jn_eq hd (by omega), jn_eq hd (by omega)] at q5
    exact ⟨q1, q2, q3, q4, by omega, by omega⟩
  refine ⟨fun z => ?_, fun z => ⟨fun z1 => ?_, fun z1 => ⟨fun z2 => ?_, fun z2 => ⟨fun z3 => ?_, fun z3 => ⟨fun z4 => ?_, fun z4 => ?_⟩⟩⟩⟩⟩
  · exact h0 (fun n hq => by have := qb n hq; omega) _ _ _ _ _ _ _
  · exact h0 (fun n hq => by have := qb n hq; omega) _ _ _ _ _ _ _
  · exact h0 (fun n hq => by have := qb n hq; omega) _ _ _ _ _ _ _
  · exact h0 (fun n hq => by have := qb n hq; omega) _ _ _ _ _ _ _
  · obtain ⟨n, rfl⟩ : ∃ n : Nat, b = n := ⟨b.toNat, by omega⟩
    have hQ := h1 n ⟨by omega, rfl, by omega, by omega, by rw [li_0, li_1, jn_eq hd (by omega), jn_eq hd (by omega)]; omega⟩
    refine wl_lig_R (c := none) hN hF hl hg hG hL hT ht hf hR (by omega) rfl (fun d q => by cases q) rfl (fun u pl t o b r p => ?_)
    have key : ∀ (k i : Nat) (v3 v4 v5 tn' : Int32) (u pl : Nat → Int64) (od' bk' br' lp' : Nat → Int32), v5 = jn (i : Int) → i ≤ l_k l → v3 = jn (gvS (fun c => gvF l (some f) g n (some c)) (gvF l (some f) g n none) i).1 → v4 = jn ((gvS (fun c => gvF l (some f) g n (some c)) (gvF l (some f) g n none) i).2 : Int) → l_k l < k + i → wp_X11_given_R_49 N rm rl (jn (l_t l)) (jn (l_s l)) (jn (l_k l)) lv lr tn od bk br lp inf code len Q k (jn (n : Int)) (jn d) v3 v4 v5 u pl tn' od' bk' br' lp' := by
      intro k
      induction k with
      | zero => intro i v3 v4 v5 tn' u pl od' bk' br' lp' _ h1 _ _ h2; omega
      | succ k ih =>
        intro i v3 v4 v5 tn' u pl od' bk' br' lp' e5 hi e3 e4 hk'
        subst e5
        have hb := gvS_b (F := fun c => gvF l (some f) g n (some c)) (m := gvF l (some f) g n none) (fun c => gvF_le hl hg) (gvF_le hl hg) (k := i)
        have hbi := gvF_le (r := (some f)) (n := n) (c := some i) hl hg
        unfold wp_X11_given_R_49 wp_X11_given_R_103 wp_X11_given_R_87
        rw [jn_le (by omega) (by omega)]
        refine ⟨fun z => ?_, fun z => ?_⟩
        · have e : i = l_k l := by omega
          subst e
          unfold aGv gvA at hQ
          refine ⟨fun y => ?_, fun y => ?_⟩
          · rw [if_pos y] at hQ; rw [e3]; exact hQ _ _ _ _ _ _ _
          · rw [if_neg y] at hQ; rw [e4]; exact hQ _ _ _ _ _ _ _
        · refine wl_lig_R (c := some i) hN hF hl hg hG hL hT ht hf hR (by omega) rfl (fun d q => by cases q; omega) rfl (fun u pl t o b r p => ?_)
          rw [e4, jn_le (by omega) (by omega)]
          refine ⟨fun y => ?_, fun y => ?_⟩
          · have st : gvS (fun c => gvF l (some f) g n (some c)) (gvF l (some f) g n none) (i + 1) = gvS (fun c => gvF l (some f) g n (some c)) (gvF l (some f) g n none) i := by
              rw [gvS, if_neg (by omega)]
            exact ih (i + 1) _ _ _ _ _ _ _ _ _ _ (by (first | rfl | (simp (disch := omega) only [jn_add, jn_sub, jn_mul, jn_neg, li_0, li_1, li_2, li_3, li_4, li_5, li_6, li_7, li_8, li_9, li_10, li_11, li_12, li_13, li_14, li_15, li_16, li_17, li_18, li_20, li_24, li_29, li_30, li_31, li_32, li_37, li_39, li_40, li_42, li_43, li_45, li_46, li_47, li_48, li_53, li_57, li_59, li_60, li_61, li_62, li_63, li_80, li_81, li_91, li_93, li_97, li_100, li_122, li_200, li_255, li_256, li_257, li_258, li_259, li_260, li_300, li_314, li_400, li_580, li_999, li_5040, li_9999, li_65536, li_99999, li_7654321] <;> first | rfl | exact congrArg jn (by omega)) | exact congrArg jn (by omega))) (by omega) (by rw [st]; exact e3) (by rw [st]) (by omega)
          · have st : gvS (fun c => gvF l (some f) g n (some c)) (gvF l (some f) g n none) (i + 1) = ((i : Int), gvF l (some f) g n (some i)) := by
              rw [gvS, if_pos (by omega)]
            exact ih (i + 1) _ _ _ _ _ _ _ _ _ _ (by (first | rfl | (simp (disch := omega) only [jn_add, jn_sub, jn_mul, jn_neg, li_0, li_1, li_2, li_3, li_4, li_5, li_6, li_7, li_8, li_9, li_10, li_11, li_12, li_13, li_14, li_15, li_16, li_17, li_18, li_20, li_24, li_29, li_30, li_31, li_32, li_37, li_39, li_40, li_42, li_43, li_45, li_46, li_47, li_48, li_53, li_57, li_59, li_60, li_61, li_62, li_63, li_80, li_81, li_91, li_93, li_97, li_100, li_122, li_200, li_255, li_256, li_257, li_258, li_259, li_260, li_300, li_314, li_400, li_580, li_999, li_5040, li_9999, li_65536, li_99999, li_7654321] <;> first | rfl | exact congrArg jn (by omega)) | exact congrArg jn (by omega))) (by omega) (by rw [st]) (by rw [st]) (by omega)
    exact key N 0 _ _ _ _ _ _ _ _ _ _ rfl (by omega) rfl rfl (by omega)
  · exact h0 (fun n hq => by have := qb n hq; omega) _ _ _ _ _ _ _
end GIV
section MGV
variable {N n : Nat} {l : lS} {g : gS} {r : rS} {sg cl cs sd kp : Nat → Int32} {fc tp : Int32} {st wd : Nat → Int64}
theorem wm_breathes {c b : Nat} {x y : Int32} {Q : (Nat → Int32) → Prop} (hl : LOk l) (hg : GOk (l_k l) g) (hG : mG (l_k l) sd g) (hc : c < l_k l) (hb : b ≤ 9) (hx : x = jn (c : Int)) (hy : y = jn (b : Int)) (h : ∀ sd', mG (l_k l) sd' (gvB g c b) → mF (l_k l) sd sd' → Q sd') : wp_X12_breathes N Q x y sd := by
  have hk := hl.2.2.1
  have hr := hg.2.2.1 c
  subst hx hy
  unfold wp_X12_breathes wp_X12_breathes_32
  refine wm_breathOf rfl (by omega) (fun x2 e2 => ?_)
  rw [hG.2.2.1 c hc, jn_add] at e2
  rw [show (11 : Int32) + 4 * jn (c : Int) + 1 = jn ((12 + 4 * c : Nat) : Int) from by (first | rfl | (simp (disch := omega) only [jn_add, jn_sub, jn_mul, jn_neg, li_0, li_1, li_2, li_3, li_4, li_5, li_6, li_7, li_8, li_9, li_10, li_11, li_12, li_13, li_14, li_15, li_16, li_17, li_18, li_20, li_24, li_29, li_30, li_31, li_32, li_37, li_39, li_40, li_42, li_43, li_45, li_46, li_47, li_48, li_53, li_57, li_59, li_60, li_61, li_62, li_63, li_80, li_81, li_91, li_93, li_97, li_100, li_122, li_200, li_255, li_256, li_257, li_258, li_259, li_260, li_300, li_314, li_400, li_580, li_999, li_5040, li_9999, li_65536, li_99999, li_7654321] <;> first | rfl | exact congrArg jn (by omega)) | exact congrArg jn (by omega))]
  have fin : ∀ (v : Int32) (a3 : Nat → Int32), v = jn ((min 60 (g_r g c + b) : Nat) : Int) → a3 = upd sd (jn ((12 + 4 * c : Nat) : Int)).toNatClampNeg v → Q a3 := by
    intro v a3 hv e3
    rw [jn_cln (by omega)] at e3
    refine h a3 ⟨?_, fun d hd => ?_, fun d hd => ?_, fun p hp => ?_, fun d hd => ?_⟩ ?_
    · rw [e3, upd_ne (by omega)]; exact hG.1
    · rw [e3, upd_ne (by omega)]; exact hG.2.1 d hd
    · show a3 (12 + 4 * d) = jn (un (g_r g) c (min 60 (g_r g c + b)) d : Int)
      by_cases e : d = c
      · rw [e3, e, upd_at, un_at, hv]
      · rw [e3, upd_ne (by omega), un_ne e]; exact hG.2.2.1 d hd
    · rw [e3, upd_ne (by omega)]; exact hG.2.2.2.1 p hp
    · rw [e3, upd_ne (by omega)]; exact hG.2.2.2.2 d hd
    · rw [e3]; exact mF_upd mF_refl (by omega)
  subst e2
  rw [li_60, jn_le (by omega) (by omega), ← li_60]
  refine ⟨fun z => ⟨by simp (disch := omega) only [jn_le, jn_lt, jn_eq, jn_in, jn_add, jn_sub, jn_mul, jn_neg, li_0, li_1, li_2, li_3, li_4, li_5, li_6, li_7, li_8, li_9, li_10, li_11, li_12, li_13, li_14, li_15, li_16, li_17, li_18, li_20, li_24, li_29, li_30, li_31, li_32, li_37, li_39, li_40, li_42, li_43, li_45, li_46, li_47, li_48, li_53, li_57, li_59, li_60, li_61, li_62, li_63, li_80, li_81, li_91, li_93, li_97, li_100, li_122, li_200, li_255, li_256, li_257, li_258, li_259, li_260, li_300, li_314, li_400, li_580, li_999, li_5040, li_9999, li_65536, li_99999, li_7654321] <;> omega, fun a3 e3 => fin _ a3 (congrArg jn (by omega)) e3⟩, fun z => ⟨by simp (disch := omega) only [jn_le, jn_lt, jn_eq, jn_in, jn_add, jn_sub, jn_mul, jn_neg, li_0, li_1, li_2, li_3, li_4, li_5, li_6, li_7, li_8, li_9, li_10, li_11, li_12, li_13, li_14, li_15, li_16, li_17, li_18, li_20, li_24, li_29, li_30, li_31, li_32, li_37, li_39, li_40, li_42, li_43, li_45, li_46, li_47, li_48, li_53, li_57, li_59, li_60, li_61, li_62, li_63, li_80, li_81, li_91, li_93, li_97, li_100, li_122, li_200, li_255, li_256, li_257, li_258, li_259, li_260, li_300, li_314, li_400, li_580, li_999, li_5040, li_9999, li_65536, li_99999, li_7654321] <;> omega, fun a3 e3 => fin _ a3 ?_ e3⟩⟩
  rw [li_60]; exact congrArg jn (by omega)
theorem wm_leaptIn {c : Option Nat} {sd1 : Nat → Int32} {Q : Int32 → (Nat → Int64) → Int32 → (Nat → Int64) → (Nat → Int32) → Prop} {x : Int32} (hN : 500 ≤ N) (hl : LOk l) (hg : GOk (l_k l) g) (hL : mL sd l) (hkp : ∀ j, j < 29 → kp j = sd (10 + j)) (hG : mG (l_k l) sd1 (gvG g c)) (hF : mF (l_k l) sd sd1) (ht : g_t g < 10000) (hf : ROk r) (hR : mR N sg cl cs fc r) (hn : n ≤ 40) (hx : x = jn (n : Int))
    (h : ∀ s t v, Q (jn (gvF l r g n c : Int)) s t v sd) : wp_X12_leaptIn N sg cl cs fc kp Q x st tp wd sd1 := by
  have hk := hl.2.2.1
  have htg : g_t (gvG g c) = g_t g := by cases c <;> rfl
  unfold wp_X12_leaptIn
  refine wm_passesAll hN (by omega) hx hl (gvG_ok hg) (mF_L hl hF hL) hG (by omega) hf hR (fun s t v sd' a1 a2 => ?_)
  refine wm_leaptAll (by omega) hl (mF_L hl (mF_trans hF a2) hL) a1 ?_
  exact wm_back (by omega) hkp (mF_7 hk (mF_trans hF a2)) (h _ _ _)
theorem wm_given {Q : Int32 → (Nat → Int64) → Int32 → (Nat → Int64) → (Nat → Int32) → (Nat → Int32) → Prop} {x w : Int32} (hN : 500 ≤ N) (hl : LOk l) (hg : GOk (l_k l) g) (hL : mL sd l) (hG : mG (l_k l) sd g) (ht : g_t g < 10000) (hf : ROk r) (hR : mR N sg cl cs fc r)
    (h0 : (∀ n, ¬ qGv l x w n) → ∀ s t v kp, Q (-2) s t v sd kp) (h1 : ∀ n, qGv l x w n → ∀ s t v kp, Q (aGv l r g n w) s t v sd kp) : wp_X12_given N sg cl cs fc Q x w st tp wd sd kp := by
  have hk := hl.2.2.1
  have hl1 := hl.1
  obtain ⟨b, rfl, hb⟩ := jn_of x
  obtain ⟨d, rfl, hd⟩ := jn_of w
  unfold wp_X12_given wp_X12_given_29
  have qb : ∀ n, qGv l (jn b) (jn d) n → l_t l = 1 ∧ b = n ∧ 1 ≤ n ∧ n ≤ 40 ∧ 0 ≤ d ∧ d ≤ 1 := by
    rintro n ⟨q1, q2, q3, q4, q5⟩
    rw [jn_eq hb (by omega)] at q2
    rw [li_0, li_1, jn_eq hd (by omega), jn_eq hd (by omega)] at q5
    exact ⟨q1, q2, q3, q4, by omega, by omega⟩
  refine wm_isLane hl1 hL.1 ⟨fun z => h0 (fun n hq => ?_) _ _ _ _, fun z => ?_⟩
  · rw [li_0, jn_eq (by omega) (by omega)] at z
    have := qb n hq; omega
  rw [li_0, jn_eq (by omega) (by omega)] at z
  refine wm_inC (b := 1) (c := 40) rfl rfl rfl hb (by decide) (by decide) (fun q1 => ⟨fun u => absurd u (by decide), fun _ => ?_⟩) (fun q1 => ⟨fun _ => h0 (fun n hq => by have := qb n hq; omega) _ _ _ _, fun u => absurd rfl u⟩)
  refine wm_inC (b := 0) (c := 1) rfl rfl rfl hd (by decide) (by decide) (fun q2 => ⟨fun u => absurd u (by decide), fun _ => ?_⟩) (fun q2 => ⟨fun _ => h0 (fun n hq => by have := qb n hq; omega) _ _ _ _, fun u => absurd rfl u⟩)
  obtain ⟨n, rfl⟩ : ∃ n : Nat, b = n := ⟨b.toNat, by omega⟩
  have hQ := h1 n ⟨by omega, rfl, by omega, by omega, by rw [li_0, li_1, jn_eq hd (by omega), jn_eq hd (by omega)]; omega⟩
  refine wm_keeps (by omega) (fun kp' hkp => ?_)
  refine wm_leaptIn (c := none) hN hl hg hL hkp hG mF_refl ht hf hR (by omega) rfl (fun s t v => ?_)
  have key : ∀ (k i : Nat) (v3 v4 v5 tp : Int32) (st wd : Nat → Int64), v5 = jn (i : Int) → i ≤ l_k l → v3 = jn (gvS (fun c => gvF l r g n (some c)) (gvF l r g n none) i).1 → v4 = jn ((gvS (fun c => gvF l r g n (some c)) (gvF l r g n none) i).2 : Int) → l_k l < k + i → wp_X12_given_48 N sg cl cs fc Q k (jn (n : Int)) (jn d) v3 v4 v5 st tp wd sd kp' := by
    intro k
    induction k with
    | zero => intro i v3 v4 v5 tp st wd _ h1 _ _ h2; omega
    | succ k ih =>
      intro i v3 v4 v5 tp st wd e5 hi e3 e4 hk'
      subst e5
      have hb := gvS_b (F := fun c => gvF l r g n (some c)) (m := gvF l r g n none) (fun c => gvF_le hl hg) (gvF_le hl hg) (k := i)
      have hbi := gvF_le (r := r) (n := n) (c := some i) hl hg
      unfold wp_X12_given_48 wp_X12_given_106 wp_X12_given_90
      rw [show (2 : Int32).toNatClampNeg = 2 from rfl, hL.2.2.1, jn_le (by omega) (by omega)]
      refine ⟨by unfold vp_in; decide, fun z => ?_, fun z => ?_⟩
      · have e : i = l_k l := by omega
        subst e
        unfold aGv gvA at hQ
        refine ⟨fun y => ?_, fun y => ?_⟩
        · rw [if_pos y] at hQ; rw [e3]; exact hQ _ _ _ _
        · rw [if_neg y] at hQ; rw [e4]; exact hQ _ _ _ _
      · refine wm_breathes (b := 5) hl hg hG (show i < l_k l by omega) (by omega) rfl rfl (fun sd' a1 a2 => ?_)
        refine wm_leaptIn (c := some i) hN hl hg hL hkp a1 a2 ht hf hR (by omega) rfl (fun s t v => ?_)
        rw [e4, jn_lt (by omega) (by omega)]
        refine ⟨fun y => ?_, fun y => ?_⟩
        · have st : gvS (fun c => gvF l r g n (some c)) (gvF l r g n none) (i + 1) = ((i : Int), gvF l r g n (some i)) := by
            rw [gvS, if_pos (by omega)]
          exact ih (i + 1) _ _ _ _ _ _ (by (first | rfl | (simp (disch := omega) only [jn_add, jn_sub, jn_mul, jn_neg, li_0, li_1, li_2, li_3, li_4, li_5, li_6, li_7, li_8, li_9, li_10, li_11, li_12, li_13, li_14, li_15, li_16, li_17, li_18, li_20, li_24, li_29, li_30, li_31, li_32, li_37, li_39, li_40, li_42, li_43, li_45, li_46, li_47, li_48, li_53, li_57, li_59, li_60, li_61, li_62, li_63, li_80, li_81, li_91, li_93, li_97, li_100, li_122, li_200, li_255, li_256, li_257, li_258, li_259, li_260, li_300, li_314, li_400, li_580, li_999, li_5040, li_9999, li_65536, li_99999, li_7654321] <;> first | rfl | exact congrArg jn (by omega)) | exact congrArg jn (by omega))) (by omega) (by rw [st]) (by rw [st]) (by omega)
        · have st : gvS (fun c => gvF l r g n (some c)) (gvF l r g n none) (i + 1) = gvS (fun c => gvF l r g n (some c)) (gvF l r g n none) i := by
            rw [gvS, if_neg (by omega)]
          exact ih (i + 1) _ _ _ _ _ _ (by (first | rfl | (simp (disch := omega) only [jn_add, jn_sub, jn_mul, jn_neg, li_0, li_1, li_2, li_3, li_4, li_5, li_6, li_7, li_8, li_9, li_10, li_11, li_12, li_13, li_14, li_15, li_16, li_17, li_18, li_20, li_24, li_29, li_30, li_31, li_32, li_37, li_39, li_40, li_42, li_43, li_45, li_46, li_47, li_48, li_53, li_57, li_59, li_60, li_61, li_62, li_63, li_80, li_81, li_91, li_93, li_97, li_100, li_122, li_200, li_255, li_256, li_257, li_258, li_259, li_260, li_300, li_314, li_400, li_580, li_999, li_5040, li_9999, li_65536, li_99999, li_7654321] <;> first | rfl | exact congrArg jn (by omega)) | exact congrArg jn (by omega))) (by omega) (by rw [st]; exact e3) (by rw [st]) (by omega)
  exact key N 0 _ _ _ _ _ _ rfl (by omega) rfl rfl (by omega)
end MGV
