/-! stumbles, both -/
def nxd (x : Nat) : Nat := (x * 1103515245 + 12345) % 2147483648
theorem nxd_lt {x : Nat} : nxd x < 2147483648 := Nat.mod_lt _ (by decide)
theorem jl_and (a b : Nat) : jl (a : Int) &&& jl (b : Int) = jl ((a &&& b : Nat) : Int) := by
  rw [jl_nat, jl_nat, jl_nat, BitVec.ofNat_and]; rfl
theorem jl_divN {a k : Nat} (ha : a < 9223372036854775808) (hk : 0 < k) (hk2 : k < 9223372036854775808) : jl (a : Int) / jl (k : Int) = jl ((a / k : Nat) : Int) := by
  have h1 : a / k ≤ a := Nat.div_le_self _ _
  have e : ((a : Int).tdiv (k : Int)) = ((a / k : Nat) : Int) := Int.ofNat_tdiv a k
  rw [← Int64.toInt_inj, Int64.toInt_div, jl_toInt (by omega), jl_toInt (by omega), e]
  generalize a / k = q at h1 ⊢
  rw [jl_toInt (by omega), Int.bmod_def]
  split <;> omega
theorem jl_modN {a k : Nat} (ha : a < 9223372036854775808) (hk : 0 < k) (hk2 : k < 9223372036854775808) : jl (a : Int) - jl (a : Int) / jl (k : Int) * jl (k : Int) = jl ((a % k : Nat) : Int) := by
  rw [jl_divN ha hk hk2, jl_mul, jl_sub]
  refine congrArg jl ?_
  have := Nat.div_add_mod a k
  rw [Nat.mul_comm] at this
  have h2 : ((a / k * k + a % k : Nat) : Int) = (a : Int) := by rw [this]
  rw [Int.natCast_add, Int.natCast_mul] at h2
  omega
theorem jn_modN {a k : Nat} (ha : a < 2147483648) (hk : 0 < k) (hk2 : k < 2147483648) : jn (a : Int) - jn (a : Int) / jn (k : Int) * jn (k : Int) = jn ((a % k : Nat) : Int) := by
  rw [jn_divN ha hk hk2, jn_mul, jn_sub]
  refine congrArg jn ?_
  have := Nat.div_add_mod a k
  rw [Nat.mul_comm] at this
  have h2 : ((a / k * k + a % k : Nat) : Int) = (a : Int) := by rw [this]
  rw [Int.natCast_add, Int.natCast_mul] at h2
  omega
theorem wl_nextDraw {N x : Nat} {Q : Int32 → Prop} {y : Int32} (hx : x < 2147483648) (hy : y = jn (x : Int)) (h : Q (jn (nxd x : Int))) : wp_X11_nextDraw N Q y := by
  unfold wp_X11_nextDraw
  subst hy
  rw [jn_l (by omega), show (1103515245 : Int64) = jl ((1103515245 : Nat) : Int) from rfl, show (12345 : Int64) = jl ((12345 : Nat) : Int) from rfl, show (2147483647 : Int64) = jl ((2147483647 : Nat) : Int) from rfl, jl_mul, jl_add]
  rw [show ((x : Int) * ((1103515245 : Nat) : Int) + ((12345 : Nat) : Int)) = ((x * 1103515245 + 12345 : Nat) : Int) from by omega, jl_and]
  rw [show (x * 1103515245 + 12345) &&& 2147483647 = nxd x from Nat.and_two_pow_sub_one_eq_mod _ 31]
  have := nxd_lt (x := x)
  rw [jl_n (by omega)]
  exact h
theorem wm_draw {N x k : Nat} {Q : Int32 → Int64 → Prop} {y : Int64} {z : Int32} (hx : x < 2147483648) (hk : 0 < k) (hk2 : k < 2147483648) (hy : y = jl (x : Int)) (hz : z = jn (k : Int)) (h : Q (jn ((nxd x / 65536 % k : Nat) : Int)) (jl (nxd x : Int))) : wp_X12_draw N Q z y := by
  unfold wp_X12_draw
  subst hy hz
  have hn := nxd_lt (x := x)
  have e1 : jl (x : Int) * (1103515245 : Int64) + (12345 : Int64) = jl ((x * 1103515245 + 12345 : Nat) : Int) := by
    rw [show (1103515245 : Int64) = jl ((1103515245 : Nat) : Int) from rfl, show (12345 : Int64) = jl ((12345 : Nat) : Int) from rfl, jl_mul, jl_add]
    exact congrArg jl (by omega)
  have e2 : jl ((x * 1103515245 + 12345 : Nat) : Int) - jl ((x * 1103515245 + 12345 : Nat) : Int) / (2147483648 : Int64) * (2147483648 : Int64) = jl (nxd x : Int) := jl_modN (k := 2147483648) (by omega) (by decide) (by decide)
  have e3 : jl (nxd x : Int) / (65536 : Int64) = jl ((nxd x / 65536 : Nat) : Int) := jl_divN (k := 65536) (by omega) (by decide) (by decide)
  rw [e1, e2, e3, jn_l (by omega), jl_modN (by omega) hk (by omega)]
  have := Nat.mod_lt (nxd x / 65536) hk
  rw [jl_n (by omega)]
  refine ⟨by decide, by decide, ?_, h⟩
  rw [show (0 : Int64) = jl 0 from rfl, jl_eq (by omega) (by omega)]; omega
def brz (g : gS) (c : Nat) : gS := (g_t g, g_o g, g_b g, un (g_r g) c 0, g_p g)
def stS (l : lS) (r : rS) (p : Nat) (q : Nat × gS) : Nat × gS := if nxd q.1 / 65536 % 100 < p ∧ 0 < l_k l then (nxd (nxd q.1), tS l r (brz q.2 (nxd (nxd q.1) / 65536 % l_k l))) else (nxd q.1, tS l r q.2)
def stI (l : lS) (r : rS) (p : Nat) (q : Nat × gS) : Nat → Nat × gS
  | 0 => q
  | n + 1 => stS l r p (stI l r p q n)
def stM (l : lS) (r : rS) (g : gS) (p n x : Nat) : Nat → Nat × Nat × Nat
  | 0 => (x, 0, 0)
  | i + 1 => ((stI l r p ((stM l r g p n x i).1, g) n).1, (stM l r g p n x i).2.1 + sumTo (g_p (stI l r p ((stM l r g p n x i).1, g) n).2) (l_k l), (stM l r g p n x i).2.2 + (if fi l (stI l r p ((stM l r g p n x i).1, g) n).2 = 0 then 1 else 0))
theorem brz_ok {k : Nat} {g : gS} {c : Nat} (h : GOk k g) : GOk k (brz g c) := ⟨h.1, h.2.1, fun d => by
  show un (g_r g) c 0 d ≤ 60
  unfold un
  have := h.2.2.1 d
  split <;> omega, h.2.2.2⟩
theorem stS_ok {l : lS} {r : rS} {p : Nat} {q : Nat × gS} (hl : LOk l) (h : GOk (l_k l) q.2) : GOk (l_k l) (stS l r p q).2 ∧ (stS l r p q).1 < 2147483648 ∧ g_t (stS l r p q).2 = g_t q.2 + 1 := by
  unfold stS
  split
  · exact ⟨tS_ok hl (brz_ok h), nxd_lt, by rw [tS_t]; rfl⟩
  · exact ⟨tS_ok hl h, nxd_lt, tS_t⟩
theorem stI_ok {l : lS} {r : rS} {p : Nat} {q : Nat × gS} (hl : LOk l) (h : GOk (l_k l) q.2) (hx : q.1 < 2147483648) : ∀ {n : Nat}, GOk (l_k l) (stI l r p q n).2 ∧ (stI l r p q n).1 < 2147483648 ∧ g_t (stI l r p q n).2 = g_t q.2 + n
  | 0 => ⟨h, hx, rfl⟩
  | n + 1 => by
    have ih := stI_ok hl h hx (r := r) (p := p) (n := n)
    have := stS_ok (r := r) (p := p) (q := stI l r p q n) hl ih.1
    exact ⟨this.1, this.2.1, by rw [stI, this.2.2, ih.2.2]; omega⟩
theorem stM_ok {l : lS} {r : rS} {g : gS} {p n x : Nat} (hl : LOk l) (h : GOk (l_k l) g) (hx : x < 2147483648) : ∀ {i : Nat}, (stM l r g p n x i).1 < 2147483648 ∧ (stM l r g p n x i).2.1 ≤ i * 6993 ∧ (stM l r g p n x i).2.2 ≤ i
  | 0 => ⟨hx, Nat.zero_le _, Nat.zero_le _⟩
  | i + 1 => by
    have ih := stM_ok hl h hx (r := r) (p := p) (n := n) (i := i)
    have h2 := stI_ok (r := r) (p := p) (q := ((stM l r g p n x i).1, g)) hl h ih.1 (n := n)
    have h3 := sum7 hl.2.2.1 h2.1
    refine ⟨h2.2.1, ?_, ?_⟩
    · show (stM l r g p n x i).2.1 + sumTo (g_p (stI l r p ((stM l r g p n x i).1, g) n).2) (l_k l) ≤ (i + 1) * 6993
      omega
    · show (stM l r g p n x i).2.2 + (if fi l (stI l r p ((stM l r g p n x i).1, g) n).2 = 0 then 1 else 0) ≤ i + 1
      split <;> omega
def qSm (l : lS) (x y z w : Int32) (m n p : Nat) : Prop := l_t l = 1 ∧ x = jn (m : Int) ∧ 1 ≤ m ∧ m ≤ 10 ∧ y = jn (n : Int) ∧ 1 ≤ n ∧ n ≤ 60 ∧ z = jn (p : Int) ∧ p ≤ 100 ∧ (w = 0 ∨ w = 1)
def aSm (w : Int32) (q : Nat × Nat × Nat) : Int32 := if w = 0 then jn (q.2.1 : Int) else jn (q.2.2 : Int)
section STU
variable {N n m p x : Nat} {l : lS} {g : gS} {rm inf tn tn' : Int32} {rl : Nat → Option Nat} {lv lr od bk br lp od' bk' br' lp' : Nat → Int32}
theorem wl_stumbling_N  {Q : Int32 → Int32 → (Nat → Int32) → (Nat → Int32) → (Nat → Int32) → (Nat → Int32) → Prop} {y z w : Int32} (hN : 500 ≤ N) (hF : ∀ K : Prop, K → wp_X11_ruleInForce_N N rm rl inf K) (hl : LOk l) (hg : GOk (l_k l) g) (hG : cG (l_k l) tn od bk br lp g) (hL : ar (l_k l) lv (l_l l)) (hT : ar (l_k l) lr (l_r l)) (ht : g_t g < 10000)  (hn : n ≤ 60) (hp : p ≤ 100) (hx : x < 2147483648) (hy : y = jn (x : Int)) (hz : z = jn (n : Int)) (hw : w = jn (p : Int))
    (h1 : ∀ t o b r p', cG (l_k l) t o b r p' (stI l none p (x, g) n).2 → Q (jn ((stI l none p (x, g) n).1 : Int)) t o b r p') : wp_X11_playStumbling_N N rm rl (jn (l_s l)) (jn (l_k l)) lv lr tn od bk br lp inf Q y z w tn' od' bk' br' lp' := by
  have hk := hl.2.2.1
  subst hy hz hw
  unfold wp_X11_playStumbling_N
  refine wl_takeG (fun o b r q e1 e2 e3 e4 => ?_)
  have key : ∀ (k i : Nat) (v4 v5 tn' : Int32) (od' br' lp' : Nat → Int32), v5 = jn (i : Int) → i ≤ n → v4 = jn ((stI l none p (x, g) i).1 : Int) → cG (l_k l) tn' od' b br' lp' (stI l none p (x, g) i).2 → n < k + i → wp_X11_playStumbling_N_20 N rm rl (jn (l_s l)) (jn (l_k l)) lv lr tn od bk br lp inf Q k (jn (n : Int)) (jn (p : Int)) v4 v5 tn' od' b br' lp' := by
    intro k
    induction k with
    | zero => intro i v4 v5 tn' od' br' lp' _ h1 _ _ h2; omega
    | succ k ih =>
      intro i v4 v5 tn' od' br' lp' e hi ev hG' hk'
      subst e
      unfold wp_X11_playStumbling_N_20 wp_X11_playStumbling_N_92
      obtain ⟨o1, o2, o3⟩ := stI_ok (r := none) (p := p) (q := (x, g)) hl hg hx (n := i)
      have o3 : g_t (stI l none p (x, g) i).2 = g_t g + i := o3
      have n1 := nxd_lt (x := (stI l none p (x, g) i).1)
      rw [jn_le (by omega) (by omega)]
      refine ⟨fun z0 => ?_, fun z0 => ?_⟩
      · have e : i = n := by omega
        subst e
        rw [ev]; exact h1 _ _ _ _ _ hG'
      · refine wl_nextDraw o2 ev ⟨by decide, by decide, ?_⟩
        rw [show jn (nxd (stI l none p (x, g) i).1 : Int) / (65536 : Int32) = jn ((nxd (stI l none p (x, g) i).1 / 65536 : Nat) : Int) from jn_divN (k := 65536) (by omega) (by decide) (by decide), show jn ((nxd (stI l none p (x, g) i).1 / 65536 : Nat) : Int) - jn ((nxd (stI l none p (x, g) i).1 / 65536 : Nat) : Int) / (100 : Int32) * (100 : Int32) = jn ((nxd (stI l none p (x, g) i).1 / 65536 % 100 : Nat) : Int) from jn_modN (k := 100) (by omega) (by decide) (by decide)]
        rw [jn_le (by omega) (by omega), li_0, jn_le (by omega) (by omega), ← li_0]
        have no : ¬ (nxd (stI l none p (x, g) i).1 / 65536 % 100 < p ∧ 0 < l_k l) → wp_X11_ruleInForce_N N rm rl inf (wp_X10_playTurn_N N (jn (l_s l)) (jn (l_k l)) lv lr b (fun r9 m12 m13 m14 m15 => wp_X11_playStumbling_N_20 N rm rl (jn (l_s l)) (jn (l_k l)) lv lr tn od bk br lp inf Q k (jn (n : Int)) (jn (p : Int)) (jn (nxd (stI l none p (x, g) i).1 : Int)) (jn (i : Int) + 1) m12 m13 b m14 m15) tn' od' br' lp') := by
          intro hq
          have es : stI l none p (x, g) (i + 1) = (nxd (stI l none p (x, g) i).1, tS l none (stI l none p (x, g) i).2) := by
            rw [stI, stS, if_neg hq]
          refine hF _ (wl_pt_N (by omega) hl o1 hG' hL hT (by omega) (fun t o r q a1 => ?_))
          exact ih (i + 1) _ _ _ _ _ _ (by (first | rfl | (simp (disch := omega) only [jn_add, jn_sub, jn_mul, jn_neg, li_0, li_1, li_2, li_3, li_4, li_5, li_6, li_7, li_8, li_9, li_10, li_11, li_12, li_13, li_14, li_15, li_16, li_17, li_18, li_20, li_24, li_29, li_30, li_31, li_32, li_37, li_39, li_40, li_42, li_43, li_45, li_46, li_47, li_48, li_53, li_57, li_59, li_60, li_61, li_62, li_63, li_80, li_81, li_91, li_93, li_97, li_100, li_122, li_200, li_255, li_256, li_257, li_258, li_259, li_260, li_300, li_314, li_400, li_580, li_999, li_5040, li_9999, li_65536, li_99999, li_7654321] <;> first | rfl | exact congrArg jn (by omega)) | exact congrArg jn (by omega))) (by omega) (by rw [es]) (by rw [es]; exact a1) (by omega)
        refine ⟨fun y => no (by omega), fun y => ⟨fun y1 => no (by omega), fun y1 => ?_⟩⟩
        have hq : nxd (stI l none p (x, g) i).1 / 65536 % 100 < p ∧ 0 < l_k l := by omega
        have es : stI l none p (x, g) (i + 1) = (nxd (nxd (stI l none p (x, g) i).1), tS l none (brz (stI l none p (x, g) i).2 (nxd (nxd (stI l none p (x, g) i).1) / 65536 % l_k l))) := by
          rw [stI, stS, if_pos hq]
        have n2 := nxd_lt (x := nxd (stI l none p (x, g) i).1)
        have hmd := Nat.mod_lt (nxd (nxd (stI l none p (x, g) i).1) / 65536) hq.2
        refine wl_nextDraw n1 rfl ⟨by decide, by rw [li_0, jn_eq (by omega) (by omega)]; omega, ?_⟩
        rw [show jn (nxd (nxd (stI l none p (x, g) i).1) : Int) / (65536 : Int32) = jn ((nxd (nxd (stI l none p (x, g) i).1) / 65536 : Nat) : Int) from jn_divN (k := 65536) (by omega) (by decide) (by decide), jn_modN (by omega) hq.2 (by omega), jn_cln (by omega)]
        refine ⟨by simp (disch := omega) only [jn_le, jn_lt, jn_eq, jn_in, jn_add, jn_sub, jn_mul, jn_neg, li_0, li_1, li_2, li_3, li_4, li_5, li_6, li_7, li_8, li_9, li_10, li_11, li_12, li_13, li_14, li_15, li_16, li_17, li_18, li_20, li_24, li_29, li_30, li_31, li_32, li_37, li_39, li_40, li_42, li_43, li_45, li_46, li_47, li_48, li_53, li_57, li_59, li_60, li_61, li_62, li_63, li_80, li_81, li_91, li_93, li_97, li_100, li_122, li_200, li_255, li_256, li_257, li_258, li_259, li_260, li_300, li_314, li_400, li_580, li_999, li_5040, li_9999, li_65536, li_99999, li_7654321] <;> omega, fun a8 e8 => ?_⟩
        have hG2 : cG (l_k l) tn' od' b a8 lp' (brz (stI l none p (x, g) i).2 (nxd (nxd (stI l none p (x, g) i).1) / 65536 % l_k l)) := ⟨hG'.1, hG'.2.1, hG'.2.2.1, by rw [e8]; exact ar_upd hG'.2.2.2.1 rfl, hG'.2.2.2.2⟩
        refine hF _ (wl_pt_N (by omega) hl (brz_ok o1) hG2 hL hT (show g_t (stI l none p (x, g) i).2 < 1000000 by omega) (fun t o r q a1 => ?_))
        exact ih (i + 1) _ _ _ _ _ _ (by (first | rfl | (simp (disch := omega) only [jn_add, jn_sub, jn_mul, jn_neg, li_0, li_1, li_2, li_3, li_4, li_5, li_6, li_7, li_8, li_9, li_10, li_11, li_12, li_13, li_14, li_15, li_16, li_17, li_18, li_20, li_24, li_29, li_30, li_31, li_32, li_37, li_39, li_40, li_42, li_43, li_45, li_46, li_47, li_48, li_53, li_57, li_59, li_60, li_61, li_62, li_63, li_80, li_81, li_91, li_93, li_97, li_100, li_122, li_200, li_255, li_256, li_257, li_258, li_259, li_260, li_300, li_314, li_400, li_580, li_999, li_5040, li_9999, li_65536, li_99999, li_7654321] <;> first | rfl | exact congrArg jn (by omega)) | exact congrArg jn (by omega))) (by omega) (by rw [es]) (by rw [es]; exact a1) (by omega)
  exact key N 0 _ _ _ _ _ _ rfl (by omega) rfl (cG_of hk hG e1 e2 e3 e4) (by omega)
theorem wl_stumbles_N  {Q : Int32 → Int32 → (Nat → Int32) → (Nat → Int32) → (Nat → Int32) → (Nat → Int32) → Prop} {a b c d sx : Int32} (hN : 500 ≤ N) (hF : ∀ K : Prop, K → wp_X11_ruleInForce_N N rm rl inf K) (hl : LOk l) (hg : GOk (l_k l) g) (hG : cG (l_k l) tn od bk br lp g) (hL : ar (l_k l) lv (l_l l)) (hT : ar (l_k l) lr (l_r l)) (ht : g_t g < 10000)  (hx : x < 2147483648) (hsx : sx = jn (x : Int))
    (h0 : (∀ m n p, ¬ qSm l a b c d m n p) → ∀ t o b r p, Q (-1) t o b r p) (h1 : ∀ m n p, qSm l a b c d m n p → ∀ t o b r p', Q (aSm d (stM l none g p n x m)) t o b r p') : wp_X11_stumbles_N N rm rl (jn (l_t l)) (jn (l_s l)) (jn (l_k l)) lv lr tn od bk br lp inf sx Q a b c d tn' od' bk' br' lp' := by
  have hk := hl.2.2.1
  have hl1 := hl.1
  obtain ⟨a, rfl, ha⟩ := jn_of a
  obtain ⟨b, rfl, hb⟩ := jn_of b
  obtain ⟨c, rfl, hc⟩ := jn_of c
  obtain ⟨d, rfl, hd⟩ := jn_of d
  have qb : ∀ m n p, qSm l (jn a) (jn b) (jn c) (jn d) m n p → l_t l = 1 ∧ a = m ∧ 1 ≤ m ∧ m ≤ 10 ∧ b = n ∧ 1 ≤ n ∧ n ≤ 60 ∧ c = p ∧ p ≤ 100 ∧ 0 ≤ d ∧ d ≤ 1 := by
    rintro m n p ⟨q1, q2, q3, q4, q5, q6, q7, q8, q9, q10⟩
    rw [jn_eq ha (by omega)] at q2
    rw [jn_eq hb (by omega)] at q5
    rw [jn_eq hc (by omega)] at q8
    rw [li_0, li_1, jn_eq hd (by omega), jn_eq hd (by omega)] at q10
    exact ⟨q1, q2, q3, q4, q5, q6, q7, q8, q9, by omega, by omega⟩
  unfold wp_X11_stumbles_N wp_X11_stumbles_N_56
  rw [li_0, li_1, li_10, li_60, li_100, jn_eq (by omega) (by omega), jn_lt ha (by omega), jn_lt (by omega) ha, jn_lt hb (by omega), jn_lt (by omega) hb, jn_lt hc (by omega), jn_lt (by omega) hc, jn_lt hd (by omega), jn_le hd (by omega), ← li_0]
  have no : (∀ m n p, ¬ qSm l (jn a) (jn b) (jn c) (jn d) m n p) → Q (-1) tn' od' bk' br' lp' := fun q => h0 q _ _ _ _ _
  refine ⟨fun z => no (fun m n p hq => by have := qb m n p hq; omega), fun z => ⟨fun z1 => no (fun m n p hq => by have := qb m n p hq; omega), fun z1 => ⟨fun z2 => no (fun m n p hq => by have := qb m n p hq; omega), fun z2 => ⟨fun z3 => no (fun m n p hq => by have := qb m n p hq; omega), fun z3 => ⟨fun z4 => no (fun m n p hq => by have := qb m n p hq; omega), fun z4 => ⟨fun z5 => no (fun m n p hq => by have := qb m n p hq; omega), fun z5 => ⟨fun z6 => no (fun m n p hq => by have := qb m n p hq; omega), fun z6 => ⟨fun z7 => no (fun m n p hq => by have := qb m n p hq; omega), fun z7 => ⟨fun z8 => ?_, fun z8 => no (fun m n p hq => by have := qb m n p hq; omega)⟩⟩⟩⟩⟩⟩⟩⟩⟩
  obtain ⟨m, rfl⟩ : ∃ n : Nat, a = n := ⟨a.toNat, by omega⟩
  obtain ⟨n, rfl⟩ : ∃ n : Nat, b = n := ⟨b.toNat, by omega⟩
  obtain ⟨p, rfl⟩ : ∃ n : Nat, c = n := ⟨c.toNat, by omega⟩
  have hQ := h1 m n p ⟨by omega, rfl, by omega, by omega, rfl, by omega, by omega, rfl, by omega, by rw [li_0, li_1, jn_eq hd (by omega), jn_eq hd (by omega)]; omega⟩
  have key : ∀ (k i : Nat) (v5 v6 v7 v8 tn' : Int32) (od' bk' br' lp' : Nat → Int32), v8 = jn (i : Int) → i ≤ m → v5 = jn ((stM l none g p n x i).1 : Int) → v6 = jn ((stM l none g p n x i).2.1 : Int) → v7 = jn ((stM l none g p n x i).2.2 : Int) → m < k + i → wp_X11_stumbles_N_76 N rm rl (jn (l_t l)) (jn (l_s l)) (jn (l_k l)) lv lr tn od bk br lp inf sx Q k (jn (m : Int)) (jn (n : Int)) (jn (p : Int)) (jn d) v5 v6 v7 v8 tn' od' bk' br' lp' := by
    intro k
    induction k with
    | zero => intro i v5 v6 v7 v8 tn' od' bk' br' lp' _ h1 _ _ _ h2; omega
    | succ k ih =>
      intro i v5 v6 v7 v8 tn' od' bk' br' lp' e hi e5 e6 e7 hk'
      subst e
      unfold wp_X11_stumbles_N_76 wp_X11_stumbles_N_156 wp_X11_stumbles_N_135
      obtain ⟨o1, o2, o3⟩ := stM_ok (r := none) (p := p) (n := n) (i := i) hl hg hx
      obtain ⟨w1, w2, w3⟩ := stI_ok (r := none) (p := p) (q := ((stM l none g p n x i).1, g)) hl hg o1 (n := n)
      have s7 := sum7 hk w1
      have hfb := fi_b hk w1
      rw [jn_le (by omega) (by omega)]
      refine ⟨fun u => ?_, fun u => ?_⟩
      · have e : i = m := by omega
        subst e
        unfold aSm at hQ
        refine ⟨fun y => ?_, fun y => ?_⟩
        · rw [if_pos y] at hQ; rw [e6]; exact hQ _ _ _ _ _
        · rw [if_neg y] at hQ; rw [e7]; exact hQ _ _ _ _ _
      · refine wl_stumbling_N hN hF hl hg hG hL hT ht (by omega) (by omega) o1 e5 rfl rfl (fun t o b r p' a1 => ?_)
        refine wl_allLeapt hk (by omega) a1.2.2.2.2 (fun x8 e8 => ?_)
        refine wl_whoIsFirst hk a1.2.1 ?_
        rw [fi_jn, show (jn (fi l (stI l none p ((stM l none g p n x i).1, g) n).2) = 0) = (fi l (stI l none p ((stM l none g p n x i).1, g) n).2 = 0) from by rw [li_0, jn_eq (by omega) (by omega)]]
        have e8' : x8 = jn ((stM l none g p n x (i + 1)).2.1 : Int) := by
          rw [e8, e6, jn_add]; rfl
        refine ⟨fun y x10 e10 => ?_, fun y x10 e10 => ?_⟩
        · refine ih (i + 1) _ _ _ _ _ _ _ _ _ (by (first | rfl | (simp (disch := omega) only [jn_add, jn_sub, jn_mul, jn_neg, li_0, li_1, li_2, li_3, li_4, li_5, li_6, li_7, li_8, li_9, li_10, li_11, li_12, li_13, li_14, li_15, li_16, li_17, li_18, li_20, li_24, li_29, li_30, li_31, li_32, li_37, li_39, li_40, li_42, li_43, li_45, li_46, li_47, li_48, li_53, li_57, li_59, li_60, li_61, li_62, li_63, li_80, li_81, li_91, li_93, li_97, li_100, li_122, li_200, li_255, li_256, li_257, li_258, li_259, li_260, li_300, li_314, li_400, li_580, li_999, li_5040, li_9999, li_65536, li_99999, li_7654321] <;> first | rfl | exact congrArg jn (by omega)) | exact congrArg jn (by omega))) (by omega) rfl e8' ?_ (by omega)
          rw [e10, e7, stM, if_pos y, li_1, jn_add]; rfl
        · refine ih (i + 1) _ _ _ _ _ _ _ _ _ (by (first | rfl | (simp (disch := omega) only [jn_add, jn_sub, jn_mul, jn_neg, li_0, li_1, li_2, li_3, li_4, li_5, li_6, li_7, li_8, li_9, li_10, li_11, li_12, li_13, li_14, li_15, li_16, li_17, li_18, li_20, li_24, li_29, li_30, li_31, li_32, li_37, li_39, li_40, li_42, li_43, li_45, li_46, li_47, li_48, li_53, li_57, li_59, li_60, li_61, li_62, li_63, li_80, li_81, li_91, li_93, li_97, li_100, li_122, li_200, li_255, li_256, li_257, li_258, li_259, li_260, li_300, li_314, li_400, li_580, li_999, li_5040, li_9999, li_65536, li_99999, li_7654321] <;> first | rfl | exact congrArg jn (by omega)) | exact congrArg jn (by omega))) (by omega) rfl e8' ?_ (by omega)
          rw [e10, e7, stM, if_neg y, li_0, jn_add]; rfl
  exact key N 0 _ _ _ _ _ _ _ _ _ rfl (by omega) hsx rfl rfl (by omega)
theorem wl_stumbling_R {f : (Nat → Int64) → Int64} {code : Nat → Int32} {len : Nat} {u pl : Nat → Int64} {Q : Int32 → (Nat → Int64) → (Nat → Int64) → Int32 → (Nat → Int32) → (Nat → Int32) → (Nat → Int32) → (Nat → Int32) → Prop} {y z w : Int32} (hN : 500 ≤ N) (hF : ∀ K : Prop, K → wp_X11_ruleInForce_R N rm rl inf K) (hl : LOk l) (hg : GOk (l_k l) g) (hG : cG (l_k l) tn od bk br lp g) (hL : ar (l_k l) lv (l_l l)) (hT : ar (l_k l) lr (l_r l)) (ht : g_t g < 10000) (hf : ROk (some f)) (hR : cR N code len f) (hn : n ≤ 60) (hp : p ≤ 100) (hx : x < 2147483648) (hy : y = jn (x : Int)) (hz : z = jn (n : Int)) (hw : w = jn (p : Int))
    (h1 : ∀ u pl t o b r p', cG (l_k l) t o b r p' (stI l (some f) p (x, g) n).2 → Q (jn ((stI l (some f) p (x, g) n).1 : Int)) u pl t o b r p') : wp_X11_playStumbling_R N rm rl (jn (l_s l)) (jn (l_k l)) lv lr tn od bk br lp inf code len Q y z w u pl tn' od' bk' br' lp' := by
  have hk := hl.2.2.1
  subst hy hz hw
  unfold wp_X11_playStumbling_R
  refine wl_takeG (fun o b r q e1 e2 e3 e4 => ?_)
  have key : ∀ (k i : Nat) (v4 v5 tn' : Int32) (u pl : Nat → Int64) (od' br' lp' : Nat → Int32), v5 = jn (i : Int) → i ≤ n → v4 = jn ((stI l (some f) p (x, g) i).1 : Int) → cG (l_k l) tn' od' b br' lp' (stI l (some f) p (x, g) i).2 → n < k + i → wp_X11_playStumbling_R_20 N rm rl (jn (l_s l)) (jn (l_k l)) lv lr tn od bk br lp inf code len Q k (jn (n : Int)) (jn (p : Int)) v4 v5 u pl tn' od' b br' lp' := by
    intro k
    induction k with
    | zero => intro i v4 v5 tn' u pl od' br' lp' _ h1 _ _ h2; omega
    | succ k ih =>
      intro i v4 v5 tn' u pl od' br' lp' e hi ev hG' hk'
      subst e
      unfold wp_X11_playStumbling_R_20 wp_X11_playStumbling_R_92
      obtain ⟨o1, o2, o3⟩ := stI_ok (r := (some f)) (p := p) (q := (x, g)) hl hg hx (n := i)
      have o3 : g_t (stI l (some f) p (x, g) i).2 = g_t g + i := o3
      have n1 := nxd_lt (x := (stI l (some f) p (x, g) i).1)
      rw [jn_le (by omega) (by omega)]
      refine ⟨fun z0 => ?_, fun z0 => ?_⟩
      · have e : i = n := by omega
        subst e
        rw [ev]; exact h1 _ _ _ _ _ _ _ hG'
      · refine wl_nextDraw o2 ev ⟨by decide, by decide, ?_⟩
        rw [show jn (nxd (stI l (some f) p (x, g) i).1 : Int) / (65536 : Int32) = jn ((nxd (stI l (some f) p (x, g) i).1 / 65536 : Nat) : Int) from jn_divN (k := 65536) (by omega) (by decide) (by decide), show jn ((nxd (stI l (some f) p (x, g) i).1 / 65536 : Nat) : Int) - jn ((nxd (stI l (some f) p (x, g) i).1 / 65536 : Nat) : Int) / (100 : Int32) * (100 : Int32) = jn ((nxd (stI l (some f) p (x, g) i).1 / 65536 % 100 : Nat) : Int) from jn_modN (k := 100) (by omega) (by decide) (by decide)]
        rw [jn_le (by omega) (by omega), li_0, jn_le (by omega) (by omega), ← li_0]
        have no : ¬ (nxd (stI l (some f) p (x, g) i).1 / 65536 % 100 < p ∧ 0 < l_k l) → wp_X11_ruleInForce_R N rm rl inf (wp_X10_playTurn N (jn (l_s l)) (jn (l_k l)) lv lr b code len (fun r9 m10 m11 m12 m13 m14 m15 => wp_X11_playStumbling_R_20 N rm rl (jn (l_s l)) (jn (l_k l)) lv lr tn od bk br lp inf code len Q k (jn (n : Int)) (jn (p : Int)) (jn (nxd (stI l (some f) p (x, g) i).1 : Int)) (jn (i : Int) + 1) m10 m11 m12 m13 b m14 m15) u pl tn' od' br' lp') := by
          intro hq
          have es : stI l (some f) p (x, g) (i + 1) = (nxd (stI l (some f) p (x, g) i).1, tS l (some f) (stI l (some f) p (x, g) i).2) := by
            rw [stI, stS, if_neg hq]
          refine hF _ (wl_pt_R (by omega) hl o1 hG' hL hT (by omega) hf hR (fun u pl t o r q a1 => ?_))
          exact ih (i + 1) _ _ _ _ _ _ _ _ (by (first | rfl | (simp (disch := omega) only [jn_add, jn_sub, jn_mul, jn_neg, li_0, li_1, li_2, li_3, li_4, li_5, li_6, li_7, li_8, li_9, li_10, li_11, li_12, li_13, li_14, li_15, li_16, li_17, li_18, li_20, li_24, li_29, li_30, li_31, li_32, li_37, li_39, li_40, li_42, li_43, li_45, li_46, li_47, li_48, li_53, li_57, li_59, li_60, li_61, li_62, li_63, li_80, li_81, li_91, li_93, li_97, li_100, li_122, li_200, li_255, li_256, li_257, li_258, li_259, li_260, li_300, li_314, li_400, li_580, li_999, li_5040, li_9999, li_65536, li_99999, li_7654321] <;> first | rfl | exact congrArg jn (by omega)) | exact congrArg jn (by omega))) (by omega) (by rw [es]) (by rw [es]; exact a1) (by omega)
        refine ⟨fun y => no (by omega), fun y => ⟨fun y1 => no (by omega), fun y1 => ?_⟩⟩
        have hq : nxd (stI l (some f) p (x, g) i).1 / 65536 % 100 < p ∧ 0 < l_k l := by omega
        have es : stI l (some f) p (x, g) (i + 1) = (nxd (nxd (stI l (some f) p (x, g) i).1), tS l (some f) (brz (stI l (some f) p (x, g) i).2 (nxd (nxd (stI l (some f) p (x, g) i).1) / 65536 % l_k l))) := by
          rw [stI, stS, if_pos hq]
        have n2 := nxd_lt (x := nxd (stI l (some f) p (x, g) i).1)
        have hmd := Nat.mod_lt (nxd (nxd (stI l (some f) p (x, g) i).1) / 65536) hq.2
        refine wl_nextDraw n1 rfl ⟨by decide, by rw [li_0, jn_eq (by omega) (by omega)]; omega, ?_⟩
        rw [show jn (nxd (nxd (stI l (some f) p (x, g) i).1) : Int) / (65536 : Int32) = jn ((nxd (nxd (stI l (some f) p (x, g) i).1) / 65536 : Nat) : Int) from jn_divN (k := 65536) (by omega) (by decide) (by decide), jn_modN (by omega) hq.2 (by omega), jn_cln (by omega)]
        refine ⟨by simp (disch := omega) only [jn_le, jn_lt, jn_eq, jn_in, jn_add, jn_sub, jn_mul, jn_neg, li_0, li_1, li_2, li_3, li_4, li_5, li_6, li_7, li_8, li_9, li_10, li_11, li_12, li_13, li_14, li_15, li_16, li_17, li_18, li_20, li_24, li_29, li_30, li_31, li_32, li_37, li_39, li_40, li_42, li_43, li_45, li_46, li_47, li_48, li_53, li_57, li_59, li_60, li_61, li_62, li_63, li_80, li_81, li_91, li_93, li_97, li_100, li_122, li_200, li_255, li_256, li_257, li_258, li_259, li_260, li_300, li_314, li_400, li_580, li_999, li_5040, li_9999, li_65536, li_99999, li_7654321] <;> omega, fun a8 e8 => ?_⟩
        have hG2 : cG (l_k l) tn' od' b a8 lp' (brz (stI l (some f) p (x, g) i).2 (nxd (nxd (stI l (some f) p (x, g) i).1) / 65536 % l_k l)) := ⟨hG'.1, hG'.2.1, hG'.2.2.1, by rw [e8]; exact ar_upd hG'.2.2.2.1 rfl, hG'.2.2.2.2⟩
        refine hF _ (wl_pt_R (by omega) hl (brz_ok o1) hG2 hL hT (show g_t (stI l (some f) p (x, g) i).2 < 1000000 by omega) hf hR (fun u pl t o r q a1 => ?_))
        exact ih (i + 1) _ _ _ _ _ _ _ _ (by (first | rfl | (simp (disch := omega) only [jn_add, jn_sub, jn_mul, jn_neg, li_0, li_1, li_2, li_3, li_4, li_5, li_6, li_7, li_8, li_9, li_10, li_11, li_12, li_13, li_14, li_15, li_16, li_17, li_18, li_20, li_24, li_29, li_30, li_31, li_32, li_37, li_39, li_40, li_42, li_43, li_45, li_46, li_47, li_48, li_53, li_57, li_59, li_60, li_61, li_62, li_63, li_80, li_81, li_91, li_93, li_97, li_100, li_122, li_200, li_255, li_256, li_257, li_258, li_259, li_260, li_300, li_314, li_400, li_580, li_999, li_5040, li_9999, li_65536, li_99999, li_7654321] <;> first | rfl | exact congrArg jn (by omega)) | exact congrArg jn (by omega))) (by omega) (by rw [es]) (by rw [es]; exact a1) (by omega)
  exact key N 0 _ _ _ _ _ _ _ _ rfl (by omega) rfl (cG_of hk hG e1 e2 e3 e4) (by omega)
theorem wl_stumbles_R {f : (Nat → Int64) → Int64} {code : Nat → Int32} {len : Nat} {u pl : Nat → Int64} {Q : Int32 → (Nat → Int64) → (Nat → Int64) → Int32 → (Nat → Int32) → (Nat → Int32) → (Nat → Int32) → (Nat → Int32) → Prop} {a b c d sx : Int32} (hN : 500 ≤ N) (hF : ∀ K : Prop, K → wp_X11_ruleInForce_R N rm rl inf K) (hl : LOk l) (hg : GOk (l_k l) g) (hG : cG (l_k l) tn od bk br lp g) (hL : ar (l_k l) lv (l_l l)) (hT : ar (l_k l) lr (l_r l)) (ht : g_t g < 10000) (hf : ROk (some f)) (hR : cR N code len f) (hx : x < 2147483648) (hsx : sx = jn (x : Int))
    (h0 : (∀ m n p, ¬ qSm l a b c d m n p) → ∀ u pl t o b r p, Q (-1) u pl t o b r p) (h1 : ∀ m n p, qSm l a b c d m n p → ∀ u pl t o b r p', Q (aSm d (stM l (some f) g p n x m)) u pl t o b r p') : wp_X11_stumbles_R N rm rl (jn (l_t l)) (jn (l_s l)) (jn (l_k l)) lv lr tn od bk br lp inf sx code len Q a b c d u pl tn' od' bk' br' lp' := by
  have hk := hl.2.2.1
  have hl1 := hl.1
  obtain ⟨a, rfl, ha⟩ := jn_of a
  obtain ⟨b, rfl, hb⟩ := jn_of b
  obtain ⟨c, rfl, hc⟩ := jn_of c
  obtain ⟨d, rfl, hd⟩ := jn_of d
  have qb : ∀ m n p, qSm l (jn a) (jn b) (jn c) (jn d) m n p → l_t l = 1 ∧ a = m ∧ 1 ≤ m ∧ m ≤ 10 ∧ b = n ∧ 1 ≤ n ∧ n ≤ 60 ∧ c = p ∧ p ≤ 100 ∧ 0 ≤ d ∧ d ≤ 1 := by
    rintro m n p ⟨q1, q2, q3, q4, q5, q6, q7, q8, q9, q10⟩
    rw [jn_eq ha (by omega)] at q2
    rw [jn_eq hb (by omega)] at q5
    rw [jn_eq hc (by omega)] at q8
    rw [li_0, li_1, jn_eq hd (by omega), jn_eq hd (by omega)] at q10
    exact ⟨q1, q2, q3, q4, q5, q6, q7, q8, q9, by omega, by omega⟩
  unfold wp_X11_stumbles_R wp_X11_stumbles_R_56
  rw [li_0, li_1, li_10, li_60, li_100, jn_eq (by omega) (by omega), jn_lt ha (by omega), jn_lt (by omega) ha, jn_lt hb (by omega), jn_lt (by omega) hb, jn_lt hc (by omega), jn_lt (by omega) hc, jn_lt hd (by omega), jn_le hd (by omega), ← li_0]
  have no : (∀ m n p, ¬ qSm l (jn a) (jn b) (jn c) (jn d) m n p) → Q (-1) u pl tn' od' bk' br' lp' := fun q => h0 q _ _ _ _ _ _ _
  refine ⟨fun z => no (fun m n p hq => by have := qb m n p hq; omega), fun z => ⟨fun z1 => no (fun m n p hq => by have := qb m n p hq; omega), fun z1 => ⟨fun z2 => no (fun m n p hq => by have := qb m n p hq; omega), fun z2 => ⟨fun z3 => no (fun m n p hq => by have := qb m n p hq; omega), fun z3 => ⟨fun z4 => no (fun m n p hq => by have := qb m n p hq; omega), fun z4 => ⟨fun z5 => no (fun m n p hq => by have := qb m n p hq; omega), fun z5 => ⟨fun z6 => no (fun m n p hq => by have := qb m n p hq; omega), fun z6 => ⟨fun z7 => no (fun m n p hq => by have := qb m n p hq; omega), fun z7 => ⟨fun z8 => ?_, fun z8 => no (fun m n p hq => by have := qb m n p hq; omega)⟩⟩⟩⟩⟩⟩⟩⟩⟩
  obtain ⟨m, rfl⟩ : ∃ n : Nat, a = n := ⟨a.toNat, by omega⟩
  obtain ⟨n, rfl⟩ : ∃ n : Nat, b = n := ⟨b.toNat, by omega⟩
  obtain ⟨p, rfl⟩ : ∃ n : Nat, c = n := ⟨c.toNat, by omega⟩
  have hQ := h1 m n p ⟨by omega, rfl, by omega, by omega, rfl, by omega, by omega, rfl, by omega, by rw [li_0, li_1, jn_eq hd (by omega), jn_eq hd (by omega)]; omega⟩
  have key : ∀ (k i : Nat) (v5 v6 v7 v8 tn' : Int32) (u pl : Nat → Int64) (od' bk' br' lp' : Nat → Int32), v8 = jn (i : Int) → i ≤ m → v5 = jn ((stM l (some f) g p n x i).1 : Int) → v6 = jn ((stM l (some f) g p n x i).2.1 : Int) → v7 = jn ((stM l (some f) g p n x i).2.2 : Int) → m < k + i → wp_X11_stumbles_R_76 N rm rl (jn (l_t l)) (jn (l_s l)) (jn (l_k l)) lv lr tn od bk br lp inf sx code len Q k (jn (m : Int)) (jn (n : Int)) (jn (p : Int)) (jn d) v5 v6 v7 v8 u pl tn' od' bk' br' lp' := by
    intro k
    induction k with
    | zero => intro i v5 v6 v7 v8 tn' u pl od' bk' br' lp' _ h1 _ _ _ h2; omega
    | succ k ih =>
      intro i v5 v6 v7 v8 tn' u pl od' bk' br' lp' e hi e5 e6 e7 hk'
      subst e
      unfold wp_X11_stumbles_R_76 wp_X11_stumbles_R_156 wp_X11_stumbles_R_135
      obtain ⟨o1, o2, o3⟩ := stM_ok (r := (some f)) (p := p) (n := n) (i := i) hl hg hx
      obtain ⟨w1, w2, w3⟩ := stI_ok (r := (some f)) (p := p) (q := ((stM l (some f) g p n x i).1, g)) hl hg o1 (n := n)
      have s7 := sum7 hk w1
      have hfb := fi_b hk w1
      rw [jn_le (by omega) (by omega)]
      refine ⟨fun u => ?_, fun u => ?_⟩
      · have e : i = m := by omega
        subst e
        unfold aSm at hQ
        refine ⟨fun y => ?_, fun y => ?_⟩
        · rw [if_pos y] at hQ; rw [e6]; exact hQ _ _ _ _ _ _ _
        · rw [if_neg y] at hQ; rw [e7]; exact hQ _ _ _ _ _ _ _
      · refine wl_stumbling_R hN hF hl hg hG hL hT ht hf hR (by omega) (by omega) o1 e5 rfl rfl (fun u pl t o b r p' a1 => ?_)
        refine wl_allLeapt hk (by omega) a1.2.2.2.2 (fun x8 e8 => ?_)
        refine wl_whoIsFirst hk a1.2.1 ?_
        rw [fi_jn, show (jn (fi l (stI l (some f) p ((stM l (some f) g p n x i).1, g) n).2) = 0) = (fi l (stI l (some f) p ((stM l (some f) g p n x i).1, g) n).2 = 0) from by rw [li_0, jn_eq (by omega) (by omega)]]
        have e8' : x8 = jn ((stM l (some f) g p n x (i + 1)).2.1 : Int) := by
          rw [e8, e6, jn_add]; rfl
        refine ⟨fun y x10 e10 => ?_, fun y x10 e10 => ?_⟩
        · refine ih (i + 1) _ _ _ _ _ _ _ _ _ _ _ (by (first | rfl | (simp (disch := omega) only [jn_add, jn_sub, jn_mul, jn_neg, li_0, li_1, li_2, li_3, li_4, li_5, li_6, li_7, li_8, li_9, li_10, li_11, li_12, li_13, li_14, li_15, li_16, li_17, li_18, li_20, li_24, li_29, li_30, li_31, li_32, li_37, li_39, li_40, li_42, li_43, li_45, li_46, li_47, li_48, li_53, li_57, li_59, li_60, li_61, li_62, li_63, li_80, li_81, li_91, li_93, li_97, li_100, li_122, li_200, li_255, li_256, li_257, li_258, li_259, li_260, li_300, li_314, li_400, li_580, li_999, li_5040, li_9999, li_65536, li_99999, li_7654321] <;> first | rfl | exact congrArg jn (by omega)) | exact congrArg jn (by omega))) (by omega) rfl e8' ?_ (by omega)
          rw [e10, e7, stM, if_pos y, li_1, jn_add]; rfl
        · refine ih (i + 1) _ _ _ _ _ _ _ _ _ _ _ (by (first | rfl | (simp (disch := omega) only [jn_add, jn_sub, jn_mul, jn_neg, li_0, li_1, li_2, li_3, li_4, li_5, li_6, li_7, li_8, li_9, li_10, li_11, li_12, li_13, li_14, li_15, li_16, li_17, li_18, li_20, li_24, li_29, li_30, li_31, li_32, li_37, li_39, li_40, li_42, li_43, li_45, li_46, li_47, li_48, li_53, li_57, li_59, li_60, li_61, li_62, li_63, li_80, li_81, li_91, li_93, li_97, li_100, li_122, li_200, li_255, li_256, li_257, li_258, li_259, li_260, li_300, li_314, li_400, li_580, li_999, li_5040, li_9999, li_65536, li_99999, li_7654321] <;> first | rfl | exact congrArg jn (by omega)) | exact congrArg jn (by omega))) (by omega) rfl e8' ?_ (by omega)
          rw [e10, e7, stM, if_neg y, li_0, jn_add]; rfl
  exact key N 0 _ _ _ _ _ _ _ _ _ _ _ rfl (by omega) hsx rfl rfl (by omega)
end STU
section MST
variable {N n m p x : Nat} {l : lS} {g : gS} {r : rS} {sg cl cs sd kp : Nat → Int32} {fc tp : Int32} {st wd : Nat → Int64}
theorem wm_stumbles {Q : Int32 → (Nat → Int64) → Int32 → (Nat → Int64) → (Nat → Int32) → (Nat → Int32) → Int64 → Prop} {a b c d mx : Int32} {dx : Int64} (hN : 500 ≤ N) (hl : LOk l) (hg : GOk (l_k l) g) (hL : mL sd l) (hG : mG (l_k l) sd g) (ht : g_t g < 10000) (hf : ROk r) (hR : mR N sg cl cs fc r) (hx : x < 2147483648) (hmx : mx = jn (x : Int))
    (h0 : (∀ m n p, ¬ qSm l a b c d m n p) → ∀ s t w kp dx, Q (-1) s t w sd kp dx) (h1 : ∀ m n p, qSm l a b c d m n p → ∀ s t w kp dx, Q (aSm d (stM l r g p n x m)) s t w sd kp dx) : wp_X12_stumbles N sg cl cs fc mx Q a b c d st tp wd sd kp dx := by
  have hk := hl.2.2.1
  have hl1 := hl.1
  obtain ⟨a, rfl, ha⟩ := jn_of a
  obtain ⟨b, rfl, hb⟩ := jn_of b
  obtain ⟨c, rfl, hc⟩ := jn_of c
  obtain ⟨d, rfl, hd⟩ := jn_of d
  have qb : ∀ m n p, qSm l (jn a) (jn b) (jn c) (jn d) m n p → l_t l = 1 ∧ a = m ∧ 1 ≤ m ∧ m ≤ 10 ∧ b = n ∧ 1 ≤ n ∧ n ≤ 60 ∧ c = p ∧ p ≤ 100 ∧ 0 ≤ d ∧ d ≤ 1 := by
    rintro m n p ⟨q1, q2, q3, q4, q5, q6, q7, q8, q9, q10⟩
    rw [jn_eq ha (by omega)] at q2
    rw [jn_eq hb (by omega)] at q5
    rw [jn_eq hc (by omega)] at q8
    rw [li_0, li_1, jn_eq hd (by omega), jn_eq hd (by omega)] at q10
    exact ⟨q1, q2, q3, q4, q5, q6, q7, q8, q9, by omega, by omega⟩
  unfold wp_X12_stumbles wp_X12_stumbles_54
  have no : ∀ {P : Prop}, (∀ m n p, qSm l (jn a) (jn b) (jn c) (jn d) m n p → P) → ¬ P → Q (-1) st tp wd sd kp dx := fun h3 h4 => h0 (fun m n p hq => h4 (h3 m n p hq)) _ _ _ _ _
  refine wm_isLane hl1 hL.1 ⟨fun z => no (P := l_t l = 1) (fun m n p hq => (qb m n p hq).1) ?_, fun z => ?_⟩
  · rw [li_0, jn_eq (by omega) (by omega)] at z; omega
  rw [li_0, jn_eq (by omega) (by omega)] at z
  refine wm_inC (b := 1) (c := 10) rfl rfl rfl ha (by decide) (by decide) (fun q1 => ⟨fun u => absurd u (by decide), fun _ => ?_⟩) (fun q1 => ⟨fun _ => no (fun m n p hq => by have := qb m n p hq; show 1 ≤ a ∧ a ≤ 10; omega) q1, fun u => absurd rfl u⟩)
  refine wm_inC (b := 1) (c := 60) rfl rfl rfl hb (by decide) (by decide) (fun q2 => ⟨fun u => absurd u (by decide), fun _ => ?_⟩) (fun q1 => ⟨fun _ => no (fun m n p hq => by have := qb m n p hq; show 1 ≤ b ∧ b ≤ 60; omega) q1, fun u => absurd rfl u⟩)
  refine wm_inC (b := 0) (c := 100) rfl rfl rfl hc (by decide) (by decide) (fun q3 => ⟨fun u => absurd u (by decide), fun _ => ?_⟩) (fun q1 => ⟨fun _ => no (fun m n p hq => by have := qb m n p hq; show 0 ≤ c ∧ c ≤ 100; omega) q1, fun u => absurd rfl u⟩)
  refine wm_inC (b := 0) (c := 1) rfl rfl rfl hd (by decide) (by decide) (fun q4 => ⟨fun u => absurd u (by decide), fun _ => ?_⟩) (fun q1 => ⟨fun _ => no (fun m n p hq => by have := qb m n p hq; show 0 ≤ d ∧ d ≤ 1; omega) q1, fun u => absurd rfl u⟩)
  obtain ⟨m, rfl⟩ : ∃ n : Nat, a = n := ⟨a.toNat, by omega⟩
  obtain ⟨n, rfl⟩ : ∃ n : Nat, b = n := ⟨b.toNat, by omega⟩
  obtain ⟨p, rfl⟩ : ∃ n : Nat, c = n := ⟨c.toNat, by omega⟩
  have hQ := h1 m n p ⟨by omega, rfl, by omega, by omega, rfl, by omega, by omega, rfl, by omega, by rw [li_0, li_1, jn_eq hd (by omega), jn_eq hd (by omega)]; omega⟩
  refine wm_keeps (by omega) (fun kp' hkp => ?_)
  have key : ∀ (k i : Nat) (v5 v6 v7 tp : Int32) (st wd : Nat → Int64) (dx : Int64), v7 = jn (i : Int) → i ≤ m → dx = jl ((stM l r g p n x i).1 : Int) → v5 = jn ((stM l r g p n x i).2.1 : Int) → v6 = jn ((stM l r g p n x i).2.2 : Int) → m < k + i → wp_X12_stumbles_78 N sg cl cs fc mx Q k (jn (m : Int)) (jn (n : Int)) (jn (p : Int)) (jn d) v5 v6 v7 st tp wd sd kp' dx := by
    intro k
    induction k with
    | zero => intro i v5 v6 v7 tp st wd dx _ h1 _ _ _ h2; omega
    | succ k ih =>
      intro i v5 v6 v7 tp st wd dx e hi edx e5 e6 hk'
      subst e
      unfold wp_X12_stumbles_78 wp_X12_stumbles_195
      obtain ⟨o1, o2, o3⟩ := stM_ok (r := r) (p := p) (n := n) (i := i) hl hg hx
      rw [jn_le (by omega) (by omega)]
      refine ⟨fun u => ?_, fun u => ?_⟩
      · have e : i = m := by omega
        subst e
        unfold aSm at hQ
        refine ⟨fun y => ?_, fun y => ?_⟩
        · rw [if_pos y] at hQ; rw [e5]; exact hQ _ _ _ _ _
        · rw [if_neg y] at hQ; rw [e6]; exact hQ _ _ _ _ _
      · have key2 : ∀ (k2 j : Nat) (v8 tp : Int32) (st wd : Nat → Int64) (sd' : Nat → Int32) (dx : Int64), v8 = jn (j : Int) → j ≤ n → dx = jl ((stI l r p ((stM l r g p n x i).1, g) j).1 : Int) → mG (l_k l) sd' (stI l r p ((stM l r g p n x i).1, g) j).2 → mF (l_k l) sd sd' → n < k2 + j → wp_X12_stumbles_87 N sg cl cs fc mx (wp_X12_stumbles_78 N sg cl cs fc mx Q k) Q k2 (jn (m : Int)) (jn (n : Int)) (jn (p : Int)) (jn d) v5 v6 (jn (i : Int)) v8 st tp wd sd' kp' dx := by
          intro k2
          induction k2 with
          | zero => intro j v8 tp st wd sd' dx _ h1 _ _ _ h2; omega
          | succ k2 ih2 =>
            intro j v8 tp st wd sd' dx e hj edx hG' hF' hk2
            subst e
            unfold wp_X12_stumbles_87 wp_X12_stumbles_170 wp_X12_stumbles_135
            obtain ⟨w1, w2, w3⟩ := stI_ok (r := r) (p := p) (q := ((stM l r g p n x i).1, g)) hl hg o1 (n := j)
            have w3 : g_t (stI l r p ((stM l r g p n x i).1, g) j).2 = g_t g + j := w3
            have hfb := fi_b hk w1
            have hL' := mF_L hl hF' hL
            have n1 := nxd_lt (x := (stI l r p ((stM l r g p n x i).1, g) j).1)
            rw [jn_le (by omega) (by omega)]
            refine ⟨fun u2 => ?_, fun u2 => ?_⟩
            · have e : j = n := by omega
              subst e
              refine wm_leaptAll (by omega) hl hL' hG' (fun x8 e8 => ?_)
              have e8' : x8 = jn ((stM l r g p j x (i + 1)).2.1 : Int) := by
                rw [e8, e5, jn_add]; rfl
              refine wm_fi0 (by omega) hl w1 hL' hG' ?_
              rw [show (jn (fi l (stI l r p ((stM l r g p j x i).1, g) j).2) = 0) = (fi l (stI l r p ((stM l r g p j x i).1, g) j).2 = 0) from by rw [li_0, jn_eq (by omega) (by omega)]]
              refine ⟨fun y x15 e15 => wm_back (by omega) hkp (mF_7 hk hF') ?_, fun y x15 e15 => wm_back (by omega) hkp (mF_7 hk hF') ?_⟩
              · refine ih (i + 1) _ _ _ _ _ _ _ (by (first | rfl | (simp (disch := omega) only [jn_add, jn_sub, jn_mul, jn_neg, li_0, li_1, li_2, li_3, li_4, li_5, li_6, li_7, li_8, li_9, li_10, li_11, li_12, li_13, li_14, li_15, li_16, li_17, li_18, li_20, li_24, li_29, li_30, li_31, li_32, li_37, li_39, li_40, li_42, li_43, li_45, li_46, li_47, li_48, li_53, li_57, li_59, li_60, li_61, li_62, li_63, li_80, li_81, li_91, li_93, li_97, li_100, li_122, li_200, li_255, li_256, li_257, li_258, li_259, li_260, li_300, li_314, li_400, li_580, li_999, li_5040, li_9999, li_65536, li_99999, li_7654321] <;> first | rfl | exact congrArg jn (by omega)) | exact congrArg jn (by omega))) (by omega) edx e8' ?_ (by omega)
                rw [e15, e6, stM, if_pos y, li_1, jn_add]; rfl
              · refine ih (i + 1) _ _ _ _ _ _ _ (by (first | rfl | (simp (disch := omega) only [jn_add, jn_sub, jn_mul, jn_neg, li_0, li_1, li_2, li_3, li_4, li_5, li_6, li_7, li_8, li_9, li_10, li_11, li_12, li_13, li_14, li_15, li_16, li_17, li_18, li_20, li_24, li_29, li_30, li_31, li_32, li_37, li_39, li_40, li_42, li_43, li_45, li_46, li_47, li_48, li_53, li_57, li_59, li_60, li_61, li_62, li_63, li_80, li_81, li_91, li_93, li_97, li_100, li_122, li_200, li_255, li_256, li_257, li_258, li_259, li_260, li_300, li_314, li_400, li_580, li_999, li_5040, li_9999, li_65536, li_99999, li_7654321] <;> first | rfl | exact congrArg jn (by omega)) | exact congrArg jn (by omega))) (by omega) edx e8' ?_ (by omega)
                rw [e15, e6, stM, if_neg y, li_0, jn_add]; rfl
            · refine wm_draw (k := 100) w2 (by decide) (by decide) edx rfl ?_
              rw [jn_le (by omega) (by omega), show (2 : Int32).toNatClampNeg = 2 from rfl, hL'.2.2.1, show (jn (l_k l : Int) ≤ 0) = (l_k l = 0) from by rw [li_0, jn_le (by omega) (by omega)]; exact propext ⟨fun q => by omega, fun q => by omega⟩]
              have nx : ¬ (nxd (stI l r p ((stM l r g p n x i).1, g) j).1 / 65536 % 100 < p ∧ 0 < l_k l) → wp_X12_passes N sg cl cs fc (fun r17 m18 m19 m20 m21 => wp_X12_stumbles_87 N sg cl cs fc mx (wp_X12_stumbles_78 N sg cl cs fc mx Q k) Q k2 (jn (m : Int)) (jn (n : Int)) (jn (p : Int)) (jn d) v5 v6 (jn (i : Int)) (jn (j : Int) + 1) m18 m19 m20 m21 kp' (jl (nxd (stI l r p ((stM l r g p n x i).1, g) j).1 : Int))) st tp wd sd' := by
                intro hq
                have es : stI l r p ((stM l r g p n x i).1, g) (j + 1) = (nxd (stI l r p ((stM l r g p n x i).1, g) j).1, tS l r (stI l r p ((stM l r g p n x i).1, g) j).2) := by
                  rw [stI, stS, if_neg hq]
                refine wm_passes (by omega) hl w1 hL' hG' (by omega) hf hR (fun s t w sd2 a1 a2 => ?_)
                exact ih2 (j + 1) _ _ _ _ _ _ (by (first | rfl | (simp (disch := omega) only [jn_add, jn_sub, jn_mul, jn_neg, li_0, li_1, li_2, li_3, li_4, li_5, li_6, li_7, li_8, li_9, li_10, li_11, li_12, li_13, li_14, li_15, li_16, li_17, li_18, li_20, li_24, li_29, li_30, li_31, li_32, li_37, li_39, li_40, li_42, li_43, li_45, li_46, li_47, li_48, li_53, li_57, li_59, li_60, li_61, li_62, li_63, li_80, li_81, li_91, li_93, li_97, li_100, li_122, li_200, li_255, li_256, li_257, li_258, li_259, li_260, li_300, li_314, li_400, li_580, li_999, li_5040, li_9999, li_65536, li_99999, li_7654321] <;> first | rfl | exact congrArg jn (by omega)) | exact congrArg jn (by omega))) (by omega) (by rw [es]) (by rw [es]; exact a1) (mF_trans hF' a2) (by omega)
              refine ⟨fun y => nx (by omega), fun y => ⟨by unfold vp_in; decide, fun y1 => nx (by omega), fun y1 => ⟨by unfold vp_in; decide, ?_⟩⟩⟩
              have hq : nxd (stI l r p ((stM l r g p n x i).1, g) j).1 / 65536 % 100 < p ∧ 0 < l_k l := by omega
              have es : stI l r p ((stM l r g p n x i).1, g) (j + 1) = (nxd (nxd (stI l r p ((stM l r g p n x i).1, g) j).1), tS l r (brz (stI l r p ((stM l r g p n x i).1, g) j).2 (nxd (nxd (stI l r p ((stM l r g p n x i).1, g) j).1) / 65536 % l_k l))) := by
                rw [stI, stS, if_pos hq]
              have hmd := Nat.mod_lt (nxd (nxd (stI l r p ((stM l r g p n x i).1, g) j).1) / 65536) hq.2
              refine wm_draw (k := l_k l) n1 hq.2 (by omega) rfl rfl ?_
              generalize hcc : nxd (nxd (stI l r p ((stM l r g p n x i).1, g) j).1) / 65536 % l_k l = cc at hmd es ⊢
              rw [show (11 : Int32) + (4 : Int32) * jn (cc : Int) + 1 = jn ((12 + 4 * cc : Nat) : Int) from by (first | rfl | (simp (disch := omega) only [jn_add, jn_sub, jn_mul, jn_neg, li_0, li_1, li_2, li_3, li_4, li_5, li_6, li_7, li_8, li_9, li_10, li_11, li_12, li_13, li_14, li_15, li_16, li_17, li_18, li_20, li_24, li_29, li_30, li_31, li_32, li_37, li_39, li_40, li_42, li_43, li_45, li_46, li_47, li_48, li_53, li_57, li_59, li_60, li_61, li_62, li_63, li_80, li_81, li_91, li_93, li_97, li_100, li_122, li_200, li_255, li_256, li_257, li_258, li_259, li_260, li_300, li_314, li_400, li_580, li_999, li_5040, li_9999, li_65536, li_99999, li_7654321] <;> first | rfl | exact congrArg jn (by omega)) | exact congrArg jn (by omega)), jn_cln (by omega)]
              refine ⟨by simp (disch := omega) only [jn_le, jn_lt, jn_eq, jn_in, jn_add, jn_sub, jn_mul, jn_neg, li_0, li_1, li_2, li_3, li_4, li_5, li_6, li_7, li_8, li_9, li_10, li_11, li_12, li_13, li_14, li_15, li_16, li_17, li_18, li_20, li_24, li_29, li_30, li_31, li_32, li_37, li_39, li_40, li_42, li_43, li_45, li_46, li_47, li_48, li_53, li_57, li_59, li_60, li_61, li_62, li_63, li_80, li_81, li_91, li_93, li_97, li_100, li_122, li_200, li_255, li_256, li_257, li_258, li_259, li_260, li_300, li_314, li_400, li_580, li_999, li_5040, li_9999, li_65536, li_99999, li_7654321] <;> omega, fun a14 e14 => ?_⟩
              have hF4 : mF (l_k l) sd a14 := by rw [e14]; exact mF_upd hF' (by omega)
              have hG4 : mG (l_k l) a14 (brz (stI l r p ((stM l r g p n x i).1, g) j).2 cc) := by
                refine ⟨?_, fun e he => ?_, fun e he => ?_, fun e he => ?_, fun e he => ?_⟩
                · rw [e14, upd_ne (by omega)]; exact hG'.1
                · rw [e14, upd_ne (by omega)]; exact hG'.2.1 e he
                · show a14 (12 + 4 * e) = jn (un (g_r (stI l r p ((stM l r g p n x i).1, g) j).2) cc 0 e : Int)
                  by_cases q : e = cc
                  · rw [e14, q, upd_at, un_at]; rfl
                  · rw [e14, upd_ne (by omega), un_ne q]; exact hG'.2.2.1 e he
                · rw [e14, upd_ne (by omega)]; exact hG'.2.2.2.1 e he
                · rw [e14, upd_ne (by omega)]; exact hG'.2.2.2.2 e he
              refine wm_passes (by omega) hl (brz_ok w1) (mF_L hl hF4 hL) hG4 (show g_t (stI l r p ((stM l r g p n x i).1, g) j).2 < 1000000 by omega) hf hR (fun s t w sd2 a1 a2 => ?_)
              exact ih2 (j + 1) _ _ _ _ _ _ (by (first | rfl | (simp (disch := omega) only [jn_add, jn_sub, jn_mul, jn_neg, li_0, li_1, li_2, li_3, li_4, li_5, li_6, li_7, li_8, li_9, li_10, li_11, li_12, li_13, li_14, li_15, li_16, li_17, li_18, li_20, li_24, li_29, li_30, li_31, li_32, li_37, li_39, li_40, li_42, li_43, li_45, li_46, li_47, li_48, li_53, li_57, li_59, li_60, li_61, li_62, li_63, li_80, li_81, li_91, li_93, li_97, li_100, li_122, li_200, li_255, li_256, li_257, li_258, li_259, li_260, li_300, li_314, li_400, li_580, li_999, li_5040, li_9999, li_65536, li_99999, li_7654321] <;> first | rfl | exact congrArg jn (by omega)) | exact congrArg jn (by omega))) (by omega) (by rw [es]) (by rw [es]; exact a1) (mF_trans hF4 a2) (by omega)
        exact key2 N 0 _ _ _ _ _ _ rfl (by omega) edx hG mF_refl (by omega)
  exact key N 0 _ _ _ _ _ _ _ rfl (by omega) (by rw [hmx]; exact jn_l (by omega)) rfl rfl (by omega)
end MST
