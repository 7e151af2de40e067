/-! rests, both -/
def rsG (g : gS) (a b t : Nat) : gS := (g_t g, g_o g, un (un (g_b g) a (5 * (t / 4 + 1))) b (5 * (t % 4 + 1)), g_r g, g_p g)
def gnV (l : lS) (r : rS) (g : gS) (n a b t c : Nat) : Int32 := jn (2 * ((g_p (tI l r n (rsG g a b t)) c : Int) - (g_p g c : Int)) - (plc l (tI l r n (rsG g a b t)) c : Int))
def gnA (l : lS) (r : rS) (g : gS) (n a b i : Nat) : Int32 := gnV l r g n a b (i / 2) (if i % 2 = 0 then a else b)
def rP (G : Nat → Int32) (t : Nat) : Bool := decide (lead (fun q => decide (¬ G (2 * t) < G (2 * (4 * q + t % 4)) ∧ G (2 * (4 * (t / 4) + q) + 1) ≤ G (2 * t + 1))) 4 = 4)
theorem rP_t {G : Nat → Int32} {t : Nat} (h : ∀ q, q < 4 → ¬ G (2 * t) < G (2 * (4 * q + t % 4)) ∧ G (2 * (4 * (t / 4) + q) + 1) ≤ G (2 * t + 1)) : rP G t = true := decide_eq_true (lead_is (Nat.le_refl 4) (fun q hq => decide_eq_true (h q hq)) (Or.inl rfl))
theorem rP_f {G : Nat → Int32} {t q : Nat} (hq : q < 4) (h : G (2 * t) < G (2 * (4 * q + t % 4)) ∨ ¬ G (2 * (4 * (t / 4) + q) + 1) ≤ G (2 * t + 1)) : rP G t = false := decide_eq_false (fun z => by
  have := of_decide_eq_true (lead_all (i := q) (by rw [z]; exact hq))
  rcases h with h | h
  · exact this.1 h
  · exact h this.2)
/-- the first of n that holds, or -1 -/
def fr (P : Nat → Bool) (n : Nat) : Int := if fst P n = n then -1 else (fst P n : Int)
theorem fst_le {P : Nat → Bool} {n : Nat} : fst P n ≤ n := lead_le
theorem fst_s {P : Nat → Bool} {n : Nat} : fst P (n + 1) = if fst P n = n ∧ P n = false then n + 1 else fst P n := by
  unfold fst
  rw [lead]
  cases P n <;> simp
theorem fr_s {P : Nat → Bool} {n : Nat} : fr P (n + 1) = if P n = true then (if fr P n = -1 then (n : Int) else fr P n) else fr P n := by
  have h := fst_s (P := P) (n := n)
  have hl := fst_le (P := P) (n := n)
  cases hp : P n with
  | true =>
    rw [hp, if_neg (fun q => by cases q.2)] at h
    unfold fr
    rw [h, if_neg (show ¬ fst P n = n + 1 by omega), if_pos rfl]
    by_cases e : fst P n = n
    · rw [if_pos e, if_pos rfl, e]
    · rw [if_neg e, if_neg (by omega)]
  | false =>
    rw [hp] at h
    rw [if_neg (show ¬ false = true by decide)]
    unfold fr
    by_cases e : fst P n = n
    · rw [if_pos ⟨e, rfl⟩] at h
      rw [h, if_pos rfl, if_pos e]
    · rw [if_neg (fun q => e q.1)] at h
      rw [h, if_neg (by omega), if_neg e]
theorem fr_b {P : Nat → Bool} {n : Nat} : -1 ≤ fr P n ∧ fr P n < n ∨ n = 0 ∧ fr P n = -1 := by
  have hl := fst_le (P := P) (n := n)
  unfold fr
  split <;> omega
/-- counted down -/
def DnI (P : Nat → Bool) (M i : Nat) (b : Int) : Prop := (b = -1 ∧ ∀ j, i ≤ j → j < M → P j = false) ∨ (∃ d : Nat, b = d ∧ i ≤ d ∧ d < M ∧ P d = true ∧ ∀ j, i ≤ j → j < d → P j = false)
theorem DnI_end {P : Nat → Bool} {M : Nat} {b : Int} (h : DnI P M 0 b) : b = fr P M := by
  unfold fr
  rcases h with ⟨rfl, h⟩ | ⟨d, rfl, -, h2, h3, h4⟩
  · rw [if_pos (fst_no (fun j hj => h j (by omega) hj))]
  · have := fst_is h2 h3 (fun j hj => h4 j (by omega) hj)
    rw [this, if_neg (by omega)]
theorem DnI_t {P : Nat → Bool} {M i : Nat} (hi : i < M) (hp : P i = true) : DnI P M i (i : Int) := Or.inr ⟨i, rfl, Nat.le_refl i, hi, hp, fun j a b => by omega⟩
theorem DnI_f {P : Nat → Bool} {M i : Nat} {b : Int} (h : DnI P M (i + 1) b) (hp : P i = false) : DnI P M i b := by
  have q : ∀ j, i ≤ j → i + 1 ≤ j ∨ P j = false := by
    intro j hj
    by_cases e : j = i
    · subst e; exact Or.inr hp
    · exact Or.inl (by omega)
  rcases h with ⟨rfl, h⟩ | ⟨d, rfl, h1, h2, h3, h4⟩
  · refine Or.inl ⟨rfl, fun j a b => ?_⟩
    rcases q j a with z | z
    · exact h j z b
    · exact z
  · refine Or.inr ⟨d, rfl, by omega, h2, h3, fun j a b => ?_⟩
    rcases q j a with z | z
    · exact h4 j z b
    · exact z
def qRs (l : lS) (x y z w : Int32) (a b n : Nat) : Prop := asC (l_k l) x = some a ∧ asC (l_k l) y = some b ∧ a ≠ b ∧ z = jn (n : Int) ∧ 1 ≤ n ∧ n ≤ 20 ∧ (w = 0 ∨ w = 1 ∨ w = 2)
def aRs (P : Nat → Bool) (w : Int32) : Int32 := if w = 0 then jn (cnt P 16 : Int) else if fr P 16 = -1 then -2 else if w = 1 then jn (5 * (fr P 16 / 4 + 1)) else jn (5 * (fr P 16 % 4 + 1))
theorem rsG_ok {k : Nat} {g : gS} {a b t : Nat} (ht : t < 16) (h : GOk k g) : GOk k (rsG g a b t) := ⟨h.1, fun d => by
  show un (un (g_b g) a (5 * (t / 4 + 1))) b (5 * (t % 4 + 1)) d ≤ 20
  unfold un
  have := h.2.1 d
  split
  · omega
  · split <;> omega, h.2.2.1, h.2.2.2⟩
theorem jn_d4 {t : Nat} (ht : t < 16) : jn (t : Int) / (4 : Int32) = jn ((t / 4 : Nat) : Int) := by
  rw [li_4]; exact jn_divN (k := 4) (by omega) (by omega) (by omega)
theorem jn_r4 {t : Nat} (ht : t < 16) : jn (t : Int) - jn (t : Int) / (4 : Int32) * (4 : Int32) = jn ((t % 4 : Nat) : Int) := by
  rw [jn_d4 ht, li_4, jn_mul, jn_sub]; exact congrArg jn (by omega)
section RST
variable {N n a b : Nat} {l : lS} {g : gS} {rm inf tn tn' : Int32} {rl : Nat → Option Nat} {lv lr od bk br lp od' bk' br' lp' ga : Nat → Int32} {G : Nat → Int32}
theorem wl_isRest_N  {t : Nat} {Q : Int32 → Prop} {x : Int32} (hN : 10 ≤ N) (hG : ∀ i, i < 32 → ga i = G i) (ht : t < 16) (hx : x = jn (t : Int)) (h1 : rP G t = true → Q 1) (h0 : rP G t = false → Q 0) : wp_X11_isRest_N N ga Q x := by
  subst hx
  unfold wp_X11_isRest_N
  refine ⟨by decide, fun x1 e1 => ⟨by decide, fun x2 e2 => ?_⟩⟩
  rw [jn_d4 ht] at e1
  rw [jn_r4 ht] at e2
  subst e1 e2
  have key : ∀ (k i : Nat) (v4 : Int32), v4 = jn (i : Int) → i ≤ 4 → (∀ q, q < i → ¬ G (2 * t) < G (2 * (4 * q + t % 4)) ∧ G (2 * (4 * (t / 4) + q) + 1) ≤ G (2 * t + 1)) → 4 < k + i → wp_X11_isRest_N_11 N ga Q k (jn (t : Int)) (jn ((t / 4 : Nat) : Int)) (jn ((t % 4 : Nat) : Int)) v4 := by
    intro k
    induction k with
    | zero => intro i v4 _ h1 _ h2; omega
    | succ k ih =>
      intro i v4 e hi ha hk
      subst e
      unfold wp_X11_isRest_N_11 wp_X11_isRest_N_69
      rw [show (2 : Int32) * ((4 : Int32) * jn (i : Int) + jn ((t % 4 : Nat) : Int)) = jn ((2 * (4 * i + t % 4) : Nat) : Int) from by (first | rfl | (simp (disch := omega) only [jn_add, jn_sub, jn_mul, jn_neg, li_0, li_1, li_2, li_3, li_4, li_5, li_6, li_7, li_8, li_9, li_10, li_11, li_12, li_13, li_14, li_15, li_16, li_17, li_18, li_20, li_24, li_29, li_30, li_31, li_32, li_37, li_39, li_40, li_42, li_43, li_45, li_46, li_47, li_48, li_53, li_57, li_59, li_60, li_61, li_62, li_63, li_80, li_81, li_91, li_93, li_97, li_100, li_122, li_200, li_255, li_256, li_257, li_258, li_259, li_260, li_300, li_314, li_400, li_580, li_999, li_5040, li_9999, li_65536, li_99999, li_7654321] <;> first | rfl | exact congrArg jn (by omega)) | exact congrArg jn (by omega)), show (2 : Int32) * jn (t : Int) = jn ((2 * t : Nat) : Int) from by (first | rfl | (simp (disch := omega) only [jn_add, jn_sub, jn_mul, jn_neg, li_0, li_1, li_2, li_3, li_4, li_5, li_6, li_7, li_8, li_9, li_10, li_11, li_12, li_13, li_14, li_15, li_16, li_17, li_18, li_20, li_24, li_29, li_30, li_31, li_32, li_37, li_39, li_40, li_42, li_43, li_45, li_46, li_47, li_48, li_53, li_57, li_59, li_60, li_61, li_62, li_63, li_80, li_81, li_91, li_93, li_97, li_100, li_122, li_200, li_255, li_256, li_257, li_258, li_259, li_260, li_300, li_314, li_400, li_580, li_999, li_5040, li_9999, li_65536, li_99999, li_7654321] <;> first | rfl | exact congrArg jn (by omega)) | exact congrArg jn (by omega)), show (2 : Int32) * ((4 : Int32) * jn ((t / 4 : Nat) : Int) + jn (i : Int)) + 1 = jn ((2 * (4 * (t / 4) + i) + 1 : Nat) : Int) from by (first | rfl | (simp (disch := omega) only [jn_add, jn_sub, jn_mul, jn_neg, li_0, li_1, li_2, li_3, li_4, li_5, li_6, li_7, li_8, li_9, li_10, li_11, li_12, li_13, li_14, li_15, li_16, li_17, li_18, li_20, li_24, li_29, li_30, li_31, li_32, li_37, li_39, li_40, li_42, li_43, li_45, li_46, li_47, li_48, li_53, li_57, li_59, li_60, li_61, li_62, li_63, li_80, li_81, li_91, li_93, li_97, li_100, li_122, li_200, li_255, li_256, li_257, li_258, li_259, li_260, li_300, li_314, li_400, li_580, li_999, li_5040, li_9999, li_65536, li_99999, li_7654321] <;> first | rfl | exact congrArg jn (by omega)) | exact congrArg jn (by omega)), show jn ((2 * t : Nat) : Int) + 1 = jn ((2 * t + 1 : Nat) : Int) from by (first | rfl | (simp (disch := omega) only [jn_add, jn_sub, jn_mul, jn_neg, li_0, li_1, li_2, li_3, li_4, li_5, li_6, li_7, li_8, li_9, li_10, li_11, li_12, li_13, li_14, li_15, li_16, li_17, li_18, li_20, li_24, li_29, li_30, li_31, li_32, li_37, li_39, li_40, li_42, li_43, li_45, li_46, li_47, li_48, li_53, li_57, li_59, li_60, li_61, li_62, li_63, li_80, li_81, li_91, li_93, li_97, li_100, li_122, li_200, li_255, li_256, li_257, li_258, li_259, li_260, li_300, li_314, li_400, li_580, li_999, li_5040, li_9999, li_65536, li_99999, li_7654321] <;> first | rfl | exact congrArg jn (by omega)) | exact congrArg jn (by omega))]
      rw [jn_cln (by omega), jn_cln (by omega), jn_cln (by omega), jn_cln (by omega)]
      rw [show ((4 : Int32) ≤ jn (i : Int)) = (4 ≤ i) from by rw [li_4, jn_le (by omega) (by omega)]; exact propext ⟨fun q => by omega, fun q => by omega⟩]
      refine ⟨fun z => h1 (rP_t (fun q hq => ha q (by omega))), fun z => ⟨by simp (disch := omega) only [jn_le, jn_lt, jn_eq, jn_in, jn_add, jn_sub, jn_mul, jn_neg, li_0, li_1, li_2, li_3, li_4, li_5, li_6, li_7, li_8, li_9, li_10, li_11, li_12, li_13, li_14, li_15, li_16, li_17, li_18, li_20, li_24, li_29, li_30, li_31, li_32, li_37, li_39, li_40, li_42, li_43, li_45, li_46, li_47, li_48, li_53, li_57, li_59, li_60, li_61, li_62, li_63, li_80, li_81, li_91, li_93, li_97, li_100, li_122, li_200, li_255, li_256, li_257, li_258, li_259, li_260, li_300, li_314, li_400, li_580, li_999, li_5040, li_9999, li_65536, li_99999, li_7654321] <;> omega, by simp (disch := omega) only [jn_le, jn_lt, jn_eq, jn_in, jn_add, jn_sub, jn_mul, jn_neg, li_0, li_1, li_2, li_3, li_4, li_5, li_6, li_7, li_8, li_9, li_10, li_11, li_12, li_13, li_14, li_15, li_16, li_17, li_18, li_20, li_24, li_29, li_30, li_31, li_32, li_37, li_39, li_40, li_42, li_43, li_45, li_46, li_47, li_48, li_53, li_57, li_59, li_60, li_61, li_62, li_63, li_80, li_81, li_91, li_93, li_97, li_100, li_122, li_200, li_255, li_256, li_257, li_258, li_259, li_260, li_300, li_314, li_400, li_580, li_999, li_5040, li_9999, li_65536, li_99999, li_7654321] <;> omega, fun y => ?_, fun y => ⟨by simp (disch := omega) only [jn_le, jn_lt, jn_eq, jn_in, jn_add, jn_sub, jn_mul, jn_neg, li_0, li_1, li_2, li_3, li_4, li_5, li_6, li_7, li_8, li_9, li_10, li_11, li_12, li_13, li_14, li_15, li_16, li_17, li_18, li_20, li_24, li_29, li_30, li_31, li_32, li_37, li_39, li_40, li_42, li_43, li_45, li_46, li_47, li_48, li_53, li_57, li_59, li_60, li_61, li_62, li_63, li_80, li_81, li_91, li_93, li_97, li_100, li_122, li_200, li_255, li_256, li_257, li_258, li_259, li_260, li_300, li_314, li_400, li_580, li_999, li_5040, li_9999, li_65536, li_99999, li_7654321] <;> omega, by simp (disch := omega) only [jn_le, jn_lt, jn_eq, jn_in, jn_add, jn_sub, jn_mul, jn_neg, li_0, li_1, li_2, li_3, li_4, li_5, li_6, li_7, li_8, li_9, li_10, li_11, li_12, li_13, li_14, li_15, li_16, li_17, li_18, li_20, li_24, li_29, li_30, li_31, li_32, li_37, li_39, li_40, li_42, li_43, li_45, li_46, li_47, li_48, li_53, li_57, li_59, li_60, li_61, li_62, li_63, li_80, li_81, li_91, li_93, li_97, li_100, li_122, li_200, li_255, li_256, li_257, li_258, li_259, li_260, li_300, li_314, li_400, li_580, li_999, li_5040, li_9999, li_65536, li_99999, li_7654321] <;> omega, fun u => ?_, fun u => ?_⟩⟩⟩
      · rw [hG _ (by omega), hG _ (by omega)] at y
        exact h0 (rP_f (by omega) (Or.inl y))
      · rw [hG _ (by omega), hG _ (by omega)] at y u
        refine ih (i + 1) _ (by (first | rfl | (simp (disch := omega) only [jn_add, jn_sub, jn_mul, jn_neg, li_0, li_1, li_2, li_3, li_4, li_5, li_6, li_7, li_8, li_9, li_10, li_11, li_12, li_13, li_14, li_15, li_16, li_17, li_18, li_20, li_24, li_29, li_30, li_31, li_32, li_37, li_39, li_40, li_42, li_43, li_45, li_46, li_47, li_48, li_53, li_57, li_59, li_60, li_61, li_62, li_63, li_80, li_81, li_91, li_93, li_97, li_100, li_122, li_200, li_255, li_256, li_257, li_258, li_259, li_260, li_300, li_314, li_400, li_580, li_999, li_5040, li_9999, li_65536, li_99999, li_7654321] <;> first | rfl | exact congrArg jn (by omega)) | exact congrArg jn (by omega))) (by omega) (fun q hq => ?_) (by omega)
        by_cases e : q = i
        · subst e; exact ⟨y, u⟩
        · exact ha q (by omega)
      · rw [hG _ (by omega), hG _ (by omega)] at u
        exact h0 (rP_f (by omega) (Or.inr u))
  exact key N 0 _ rfl (by omega) (fun q hq => by omega) (by omega)
theorem wl_gain_N  {t c : Nat} {Q : Int32 → Prop} {x : Int32} (hN : 10 ≤ N) (hl : LOk l) (hg : GOk (l_k l) g) (hG : ar (l_k l) lp (g_p g)) (ht : t < 16) (hO : ar (l_k l) od' (g_o (tI l none n (rsG g a b t)))) (hP : ar (l_k l) lp' (g_p (tI l none n (rsG g a b t)))) (hc : c < l_k l) (hx : x = jn (c : Int)) (h : Q (gnV l none g n a b t c)) : wp_X11_gainOf_N N (jn (l_k l)) lp od' lp' Q x := by
  have hk := hl.2.2.1
  have hgt := tI_ok (r := none) hl (n := n) (rsG_ok (a := a) (b := b) ht hg)
  have hp : plc l (tI l none n (rsG g a b t)) c < l_k l := iv_lt hgt.1 hc
  subst hx
  unfold wp_X11_gainOf_N
  rw [jn_cln (by omega), hP c hc, hG c hc]
  refine ⟨by simp (disch := omega) only [jn_le, jn_lt, jn_eq, jn_in, jn_add, jn_sub, jn_mul, jn_neg, li_0, li_1, li_2, li_3, li_4, li_5, li_6, li_7, li_8, li_9, li_10, li_11, li_12, li_13, li_14, li_15, li_16, li_17, li_18, li_20, li_24, li_29, li_30, li_31, li_32, li_37, li_39, li_40, li_42, li_43, li_45, li_46, li_47, li_48, li_53, li_57, li_59, li_60, li_61, li_62, li_63, li_80, li_81, li_91, li_93, li_97, li_100, li_122, li_200, li_255, li_256, li_257, li_258, li_259, li_260, li_300, li_314, li_400, li_580, li_999, li_5040, li_9999, li_65536, li_99999, li_7654321] <;> omega, by simp (disch := omega) only [jn_le, jn_lt, jn_eq, jn_in, jn_add, jn_sub, jn_mul, jn_neg, li_0, li_1, li_2, li_3, li_4, li_5, li_6, li_7, li_8, li_9, li_10, li_11, li_12, li_13, li_14, li_15, li_16, li_17, li_18, li_20, li_24, li_29, li_30, li_31, li_32, li_37, li_39, li_40, li_42, li_43, li_45, li_46, li_47, li_48, li_53, li_57, li_59, li_60, li_61, li_62, li_63, li_80, li_81, li_91, li_93, li_97, li_100, li_122, li_200, li_255, li_256, li_257, li_258, li_259, li_260, li_300, li_314, li_400, li_580, li_999, li_5040, li_9999, li_65536, li_99999, li_7654321] <;> omega, wl_placeOf hk hN hO hgt.1 hp (by rw [show g_o (tI l none n (rsG g a b t)) (plc l (tI l none n (rsG g a b t)) c) = c from iv_at hgt.1 hc]) ?_⟩
  rw [li_2, jn_sub, jn_mul, jn_sub]
  exact h
theorem wl_gather_N  {Q : Int32 → (Nat → Int32) → (Nat → Int32) → (Nat → Int32) → (Nat → Int32) → (Nat → Int32) → Prop} {x y z : Int32} (hN : 500 ≤ N) (hF : ∀ K : Prop, K → wp_X11_ruleInForce_N N rm rl inf K) (hl : LOk l) (hg : GOk (l_k l) g) (hG : cG (l_k l) tn od bk br lp g) (hL : ar (l_k l) lv (l_l l)) (hT : ar (l_k l) lr (l_r l)) (ht : g_t g < 10000)  (ha : a < l_k l) (hb : b < l_k l) (hn : n ≤ 20) (hx : x = jn (a : Int)) (hy : y = jn (b : Int)) (hz : z = jn (n : Int))
    (h1 : ∀ t o b' r p ga, (∀ i, i < 32 → ga i = gnA l none g n a b i) → Q t o b' r p ga) : wp_X11_gatherGains_N N rm rl (jn (l_s l)) (jn (l_k l)) lv lr tn od bk br lp inf Q x y z tn' od' bk' br' lp' ga := by
  have hk := hl.2.2.1
  unfold wp_X11_gatherGains_N
  subst hx hy hz
  have key : ∀ (k t : Nat) (v4 tn' : Int32) (od' bk' br' lp' ga : Nat → Int32), v4 = jn (t : Int) → t ≤ 16 → (∀ i, i < 2 * t → ga i = gnA l none g n a b i) → 16 < k + t → wp_X11_gatherGains_N_3 N rm rl (jn (l_s l)) (jn (l_k l)) lv lr tn od bk br lp inf Q k (jn (a : Int)) (jn (b : Int)) (jn (n : Int)) v4 tn' od' bk' br' lp' ga := by
    intro k
    induction k with
    | zero => intro t v4 tn' od' bk' br' lp' ga _ h1 _ h2; omega
    | succ k ih =>
      intro t v4 tn' od' bk' br' lp' ga e hi hga hk'
      subst e
      unfold wp_X11_gatherGains_N_3 wp_X11_restBack
      rw [li_16, jn_le (by omega) (by omega)]
      refine ⟨fun q => h1 _ _ _ _ _ _ (fun i hi => hga i (by omega)), fun q => ?_⟩
      have ht16 : t < 16 := by omega
      rw [jn_r4 ht16, jn_d4 ht16]
      refine wl_takeG (fun o b' r p e1 e2 e3 e4 => ?_)
      have hG1 := cG_of hk hG e1 e2 e3 e4
      refine ⟨by decide, by simp (disch := omega) only [jn_le, jn_lt, jn_eq, jn_in, jn_add, jn_sub, jn_mul, jn_neg, li_0, li_1, li_2, li_3, li_4, li_5, li_6, li_7, li_8, li_9, li_10, li_11, li_12, li_13, li_14, li_15, li_16, li_17, li_18, li_20, li_24, li_29, li_30, li_31, li_32, li_37, li_39, li_40, li_42, li_43, li_45, li_46, li_47, li_48, li_53, li_57, li_59, li_60, li_61, li_62, li_63, li_80, li_81, li_91, li_93, li_97, li_100, li_122, li_200, li_255, li_256, li_257, li_258, li_259, li_260, li_300, li_314, li_400, li_580, li_999, li_5040, li_9999, li_65536, li_99999, li_7654321] <;> omega, fun a7 e7 => ⟨by decide, by simp (disch := omega) only [jn_le, jn_lt, jn_eq, jn_in, jn_add, jn_sub, jn_mul, jn_neg, li_0, li_1, li_2, li_3, li_4, li_5, li_6, li_7, li_8, li_9, li_10, li_11, li_12, li_13, li_14, li_15, li_16, li_17, li_18, li_20, li_24, li_29, li_30, li_31, li_32, li_37, li_39, li_40, li_42, li_43, li_45, li_46, li_47, li_48, li_53, li_57, li_59, li_60, li_61, li_62, li_63, li_80, li_81, li_91, li_93, li_97, li_100, li_122, li_200, li_255, li_256, li_257, li_258, li_259, li_260, li_300, li_314, li_400, li_580, li_999, li_5040, li_9999, li_65536, li_99999, li_7654321] <;> omega, fun a9 e9 => ?_⟩⟩
      rw [jn_cln (by omega), show (5 : Int32) * (jn ((t / 4 : Nat) : Int) + 1) = jn ((5 * (t / 4 + 1) : Nat) : Int) from by (first | rfl | (simp (disch := omega) only [jn_add, jn_sub, jn_mul, jn_neg, li_0, li_1, li_2, li_3, li_4, li_5, li_6, li_7, li_8, li_9, li_10, li_11, li_12, li_13, li_14, li_15, li_16, li_17, li_18, li_20, li_24, li_29, li_30, li_31, li_32, li_37, li_39, li_40, li_42, li_43, li_45, li_46, li_47, li_48, li_53, li_57, li_59, li_60, li_61, li_62, li_63, li_80, li_81, li_91, li_93, li_97, li_100, li_122, li_200, li_255, li_256, li_257, li_258, li_259, li_260, li_300, li_314, li_400, li_580, li_999, li_5040, li_9999, li_65536, li_99999, li_7654321] <;> first | rfl | exact congrArg jn (by omega)) | exact congrArg jn (by omega))] at e7
      rw [jn_cln (by omega), show (5 : Int32) * (jn ((t % 4 : Nat) : Int) + 1) = jn ((5 * (t % 4 + 1) : Nat) : Int) from by (first | rfl | (simp (disch := omega) only [jn_add, jn_sub, jn_mul, jn_neg, li_0, li_1, li_2, li_3, li_4, li_5, li_6, li_7, li_8, li_9, li_10, li_11, li_12, li_13, li_14, li_15, li_16, li_17, li_18, li_20, li_24, li_29, li_30, li_31, li_32, li_37, li_39, li_40, li_42, li_43, li_45, li_46, li_47, li_48, li_53, li_57, li_59, li_60, li_61, li_62, li_63, li_80, li_81, li_91, li_93, li_97, li_100, li_122, li_200, li_255, li_256, li_257, li_258, li_259, li_260, li_300, li_314, li_400, li_580, li_999, li_5040, li_9999, li_65536, li_99999, li_7654321] <;> first | rfl | exact congrArg jn (by omega)) | exact congrArg jn (by omega))] at e9
      have hB : ar (l_k l) a9 (g_b (rsG g a b t)) := by
        rw [e9]
        refine ar_upd ?_ rfl
        rw [e7]
        exact ar_upd hG1.2.2.1 rfl
      have hG2 : cG (l_k l) tn o a9 r p (rsG g a b t) := ⟨hG1.1, hG1.2.1, hB, hG1.2.2.2.1, hG1.2.2.2.2⟩
      refine wl_po_N hN (by omega) rfl hF hl (rsG_ok ht16 hg) hG2 hL hT (show g_t g + n < 1000000 by omega) (fun t2 o2 r2 p2 a1 => ?_)
      refine wl_gain_N (by omega) hl hg hG.2.2.2.2 ht16 a1.2.1 a1.2.2.2.2 ha rfl ?_
      rw [show (2 : Int32) * jn (t : Int) = jn ((2 * t : Nat) : Int) from by (first | rfl | (simp (disch := omega) only [jn_add, jn_sub, jn_mul, jn_neg, li_0, li_1, li_2, li_3, li_4, li_5, li_6, li_7, li_8, li_9, li_10, li_11, li_12, li_13, li_14, li_15, li_16, li_17, li_18, li_20, li_24, li_29, li_30, li_31, li_32, li_37, li_39, li_40, li_42, li_43, li_45, li_46, li_47, li_48, li_53, li_57, li_59, li_60, li_61, li_62, li_63, li_80, li_81, li_91, li_93, li_97, li_100, li_122, li_200, li_255, li_256, li_257, li_258, li_259, li_260, li_300, li_314, li_400, li_580, li_999, li_5040, li_9999, li_65536, li_99999, li_7654321] <;> first | rfl | exact congrArg jn (by omega)) | exact congrArg jn (by omega)), show jn ((2 * t : Nat) : Int) + 1 = jn ((2 * t + 1 : Nat) : Int) from by (first | rfl | (simp (disch := omega) only [jn_add, jn_sub, jn_mul, jn_neg, li_0, li_1, li_2, li_3, li_4, li_5, li_6, li_7, li_8, li_9, li_10, li_11, li_12, li_13, li_14, li_15, li_16, li_17, li_18, li_20, li_24, li_29, li_30, li_31, li_32, li_37, li_39, li_40, li_42, li_43, li_45, li_46, li_47, li_48, li_53, li_57, li_59, li_60, li_61, li_62, li_63, li_80, li_81, li_91, li_93, li_97, li_100, li_122, li_200, li_255, li_256, li_257, li_258, li_259, li_260, li_300, li_314, li_400, li_580, li_999, li_5040, li_9999, li_65536, li_99999, li_7654321] <;> first | rfl | exact congrArg jn (by omega)) | exact congrArg jn (by omega)), jn_cln (by omega), jn_cln (by omega)]
      refine ⟨by simp (disch := omega) only [jn_le, jn_lt, jn_eq, jn_in, jn_add, jn_sub, jn_mul, jn_neg, li_0, li_1, li_2, li_3, li_4, li_5, li_6, li_7, li_8, li_9, li_10, li_11, li_12, li_13, li_14, li_15, li_16, li_17, li_18, li_20, li_24, li_29, li_30, li_31, li_32, li_37, li_39, li_40, li_42, li_43, li_45, li_46, li_47, li_48, li_53, li_57, li_59, li_60, li_61, li_62, li_63, li_80, li_81, li_91, li_93, li_97, li_100, li_122, li_200, li_255, li_256, li_257, li_258, li_259, li_260, li_300, li_314, li_400, li_580, li_999, li_5040, li_9999, li_65536, li_99999, li_7654321] <;> omega, fun a15 e15 => ?_⟩
      refine wl_gain_N (by omega) hl hg hG.2.2.2.2 ht16 a1.2.1 a1.2.2.2.2 hb rfl ?_
      refine ⟨by simp (disch := omega) only [jn_le, jn_lt, jn_eq, jn_in, jn_add, jn_sub, jn_mul, jn_neg, li_0, li_1, li_2, li_3, li_4, li_5, li_6, li_7, li_8, li_9, li_10, li_11, li_12, li_13, li_14, li_15, li_16, li_17, li_18, li_20, li_24, li_29, li_30, li_31, li_32, li_37, li_39, li_40, li_42, li_43, li_45, li_46, li_47, li_48, li_53, li_57, li_59, li_60, li_61, li_62, li_63, li_80, li_81, li_91, li_93, li_97, li_100, li_122, li_200, li_255, li_256, li_257, li_258, li_259, li_260, li_300, li_314, li_400, li_580, li_999, li_5040, li_9999, li_65536, li_99999, li_7654321] <;> omega, fun a17 e17 => ?_⟩
      refine ih (t + 1) _ _ _ _ _ _ _ (by (first | rfl | (simp (disch := omega) only [jn_add, jn_sub, jn_mul, jn_neg, li_0, li_1, li_2, li_3, li_4, li_5, li_6, li_7, li_8, li_9, li_10, li_11, li_12, li_13, li_14, li_15, li_16, li_17, li_18, li_20, li_24, li_29, li_30, li_31, li_32, li_37, li_39, li_40, li_42, li_43, li_45, li_46, li_47, li_48, li_53, li_57, li_59, li_60, li_61, li_62, li_63, li_80, li_81, li_91, li_93, li_97, li_100, li_122, li_200, li_255, li_256, li_257, li_258, li_259, li_260, li_300, li_314, li_400, li_580, li_999, li_5040, li_9999, li_65536, li_99999, li_7654321] <;> first | rfl | exact congrArg jn (by omega)) | exact congrArg jn (by omega))) (by omega) (fun i hi2 => ?_) (by omega)
      by_cases q1 : i = 2 * t + 1
      · rw [e17, q1, upd_at]
        unfold gnA
        rw [if_neg (by omega), show (2 * t + 1) / 2 = t by omega]
      · rw [e17, upd_ne q1, e15]
        by_cases q2 : i = 2 * t
        · rw [q2, upd_at]
          unfold gnA
          rw [if_pos (by omega), show (2 * t) / 2 = t by omega]
        · rw [upd_ne q2]; exact hga i (by omega)
  exact key N 0 _ _ _ _ _ _ _ rfl (by omega) (fun i hi => by omega) (by omega)
theorem wl_rests_N  {Q : Int32 → Int32 → (Nat → Int32) → (Nat → Int32) → (Nat → Int32) → (Nat → Int32) → (Nat → Int32) → Prop} {x y z w : Int32} (hN : 500 ≤ N) (hF : ∀ K : Prop, K → wp_X11_ruleInForce_N N rm rl inf K) (hl : LOk l) (hg : GOk (l_k l) g) (hG : cG (l_k l) tn od bk br lp g) (hL : ar (l_k l) lv (l_l l)) (hT : ar (l_k l) lr (l_r l)) (ht : g_t g < 10000) 
    (h0 : (∀ a b n, ¬ qRs l x y z w a b n) → ∀ t o b' r p ga, Q (-1) t o b' r p ga) (h1 : ∀ a b n, qRs l x y z w a b n → ∀ t o b' r p ga, Q (aRs (rP (gnA l none g n a b)) w) t o b' r p ga) : wp_X11_rests_N N rm rl (jn (l_s l)) (jn (l_k l)) lv lr tn od bk br lp inf Q x y z w tn' od' bk' br' lp' ga := by
  have hk := hl.2.2.1
  obtain ⟨e, rfl, he⟩ := jn_of z
  obtain ⟨d, rfl, hd⟩ := jn_of w
  have qb : ∀ a b n, qRs l x y (jn e) (jn d) a b n → asC (l_k l) x = some a ∧ asC (l_k l) y = some b ∧ a ≠ b ∧ e = n ∧ 1 ≤ n ∧ n ≤ 20 ∧ 0 ≤ d ∧ d ≤ 2 := by
    rintro a b n ⟨q1, q2, q3, q4, q5, q6, q7⟩
    rw [jn_eq he (by omega)] at q4
    rw [li_0, li_1, li_2, jn_eq hd (by omega), jn_eq hd (by omega), jn_eq hd (by omega)] at q7
    exact ⟨q1, q2, q3, q4, q5, q6, by omega, by omega⟩
  unfold wp_X11_rests_N wp_X11_rests_N_43
  refine wl_isCh_N hk (fun hno => ⟨fun _ => h0 (fun a b n hq => by have := (qb a b n hq).1; rw [hno] at this; cases this) _ _ _ _ _ _, fun q => absurd rfl q⟩) (fun a hc hs hx => ⟨fun q => absurd q (by decide), fun _ => ?_⟩)
  refine wl_isCh_N hk (fun hno => ⟨fun _ => h0 (fun a b n hq => by have := (qb a b n hq).2.1; rw [hno] at this; cases this) _ _ _ _ _ _, fun q => absurd rfl q⟩) (fun b hcb hsb hxb => ⟨fun q => absurd q (by decide), fun _ => ?_⟩)
  rw [hx, hxb, jn_eq (by omega) (by omega), li_1, li_20, li_0, li_2, jn_lt he (by omega), jn_lt (by omega) he, jn_lt hd (by omega), jn_le hd (by omega), ← li_0]
  refine ⟨fun z => h0 (fun a' b' n hq => ?_) _ _ _ _ _ _, fun z => ⟨fun z1 => ?_, fun z1 => ⟨fun z2 => ?_, fun z2 => ⟨fun z3 => ?_, fun z3 => ⟨fun z4 => ?_, fun z4 => ?_⟩⟩⟩⟩⟩
  · have := qb a' b' n hq
    rw [hs, hsb] at this
    obtain ⟨q1, q2, q3, -⟩ := this
    cases q1; cases q2
    exact q3 (by omega)
  · exact h0 (fun a' b' n hq => by have := qb a' b' n hq; omega) _ _ _ _ _ _
  · exact h0 (fun a' b' n hq => by have := qb a' b' n hq; omega) _ _ _ _ _ _
  · exact h0 (fun a' b' n hq => by have := qb a' b' n hq; omega) _ _ _ _ _ _
  · obtain ⟨n, rfl⟩ : ∃ n : Nat, e = n := ⟨e.toNat, by omega⟩
    have hQ := h1 a b n ⟨hs, hsb, by omega, rfl, by omega, by omega, by rw [li_0, li_1, li_2, jn_eq hd (by omega), jn_eq hd (by omega), jn_eq hd (by omega)]; omega⟩
    refine wl_gather_N hN hF hl hg hG hL hT ht hc hcb (by omega) rfl rfl rfl (fun t o b' r p ga hga => ?_)
    have key : ∀ (k i : Nat) (v5 v6 v7 : Int32), v7 = jn (i : Int) → i ≤ 16 → v5 = jn (cnt (rP (gnA l none g n a b)) i : Int) → v6 = jn (fr (rP (gnA l none g n a b)) i) → 16 < k + i → wp_X11_rests_N_61 N rm rl (jn (l_s l)) (jn (l_k l)) lv lr tn od bk br lp inf Q k (jn d) v5 v6 v7 t o b' r p ga := by
      intro k
      induction k with
      | zero => intro i v5 v6 v7 _ h1 _ _ h2; omega
      | succ k ih =>
        intro i v5 v6 v7 e7 hi e5 e6 hk'
        subst e7
        have hfb := fr_b (P := rP (gnA l none g n a b)) (n := i)
        unfold wp_X11_rests_N_61 wp_X11_rests_N_141 wp_X11_rests_N_95 wp_X11_rests_N_93 wp_X11_restBack
        rw [show ((16 : Int32) ≤ jn (i : Int)) = (16 ≤ i) from by rw [li_16, jn_le (by omega) (by omega)]; exact propext ⟨fun q => by omega, fun q => by omega⟩]
        refine ⟨fun z => ?_, fun z => ?_⟩
        · have e : i = 16 := by omega
          subst e
          unfold aRs at hQ
          refine ⟨fun y => ?_, fun y => ⟨fun y1 => ?_, fun y1 => ?_⟩⟩
          · rw [if_pos y] at hQ; rw [e5]; exact hQ _ _ _ _ _ _
          · rw [e6, show (-1 : Int32) = jn (-1) from rfl, jn_eq (by omega) (by omega)] at y1
            rw [if_neg y, if_pos y1] at hQ
            exact hQ _ _ _ _ _ _
          · rw [e6, show (-1 : Int32) = jn (-1) from rfl, jn_eq (by omega) (by omega)] at y1
            rw [if_neg y, if_neg y1] at hQ
            obtain ⟨fi, hfi⟩ : ∃ fi : Nat, fr (rP (gnA l none g n a b)) 16 = fi := ⟨(fr (rP (gnA l none g n a b)) 16).toNat, by omega⟩
            rw [hfi] at hQ e6 hfb
            subst e6
            refine ⟨fun y2 => ⟨by decide, ?_⟩, fun y2 => ⟨by decide, ?_⟩⟩
            · rw [if_pos y2] at hQ
              rw [jn_d4 (by omega), show (5 : Int32) * (jn ((fi / 4 : Nat) : Int) + 1) = jn (5 * ((fi : Int) / 4 + 1)) from by (first | rfl | (simp (disch := omega) only [jn_add, jn_sub, jn_mul, jn_neg, li_0, li_1, li_2, li_3, li_4, li_5, li_6, li_7, li_8, li_9, li_10, li_11, li_12, li_13, li_14, li_15, li_16, li_17, li_18, li_20, li_24, li_29, li_30, li_31, li_32, li_37, li_39, li_40, li_42, li_43, li_45, li_46, li_47, li_48, li_53, li_57, li_59, li_60, li_61, li_62, li_63, li_80, li_81, li_91, li_93, li_97, li_100, li_122, li_200, li_255, li_256, li_257, li_258, li_259, li_260, li_300, li_314, li_400, li_580, li_999, li_5040, li_9999, li_65536, li_99999, li_7654321] <;> first | rfl | exact congrArg jn (by omega)) | exact congrArg jn (by omega))]
              exact hQ _ _ _ _ _ _
            · rw [if_neg y2] at hQ
              rw [jn_r4 (by omega), show (5 : Int32) * (jn ((fi % 4 : Nat) : Int) + 1) = jn (5 * ((fi : Int) % 4 + 1)) from by (first | rfl | (simp (disch := omega) only [jn_add, jn_sub, jn_mul, jn_neg, li_0, li_1, li_2, li_3, li_4, li_5, li_6, li_7, li_8, li_9, li_10, li_11, li_12, li_13, li_14, li_15, li_16, li_17, li_18, li_20, li_24, li_29, li_30, li_31, li_32, li_37, li_39, li_40, li_42, li_43, li_45, li_46, li_47, li_48, li_53, li_57, li_59, li_60, li_61, li_62, li_63, li_80, li_81, li_91, li_93, li_97, li_100, li_122, li_200, li_255, li_256, li_257, li_258, li_259, li_260, li_300, li_314, li_400, li_580, li_999, li_5040, li_9999, li_65536, li_99999, li_7654321] <;> first | rfl | exact congrArg jn (by omega)) | exact congrArg jn (by omega))]
              exact hQ _ _ _ _ _ _
        · have hc5 : ∀ v, rP (gnA l none g n a b) i = v → cnt (rP (gnA l none g n a b)) (i + 1) = cnt (rP (gnA l none g n a b)) i + (if v = true then 1 else 0) := fun v hv => by rw [← hv]; rfl
          refine wl_isRest_N (by omega) hga (show i < 16 by omega) rfl (fun hr => ⟨fun u => absurd u (by decide), fun _ => ?_⟩) (fun hr => ⟨fun _ => ?_, fun u => absurd rfl u⟩)
          · have e5' : v5 + 1 = jn (cnt (rP (gnA l none g n a b)) (i + 1) : Int) := by rw [e5, hc5 _ hr, if_pos rfl]; exact by (first | rfl | (simp (disch := omega) only [jn_add, jn_sub, jn_mul, jn_neg, li_0, li_1, li_2, li_3, li_4, li_5, li_6, li_7, li_8, li_9, li_10, li_11, li_12, li_13, li_14, li_15, li_16, li_17, li_18, li_20, li_24, li_29, li_30, li_31, li_32, li_37, li_39, li_40, li_42, li_43, li_45, li_46, li_47, li_48, li_53, li_57, li_59, li_60, li_61, li_62, li_63, li_80, li_81, li_91, li_93, li_97, li_100, li_122, li_200, li_255, li_256, li_257, li_258, li_259, li_260, li_300, li_314, li_400, li_580, li_999, li_5040, li_9999, li_65536, li_99999, li_7654321] <;> first | rfl | exact congrArg jn (by omega)) | exact congrArg jn (by omega))
            have h6 := fr_s (P := rP (gnA l none g n a b)) (n := i)
            rw [if_pos hr] at h6
            rw [e6, show (-1 : Int32) = jn (-1) from rfl, jn_eq (by omega) (by omega)]
            refine ⟨fun y => ?_, fun y => ?_⟩
            · rw [if_pos y] at h6
              exact ih (i + 1) _ _ _ (by (first | rfl | (simp (disch := omega) only [jn_add, jn_sub, jn_mul, jn_neg, li_0, li_1, li_2, li_3, li_4, li_5, li_6, li_7, li_8, li_9, li_10, li_11, li_12, li_13, li_14, li_15, li_16, li_17, li_18, li_20, li_24, li_29, li_30, li_31, li_32, li_37, li_39, li_40, li_42, li_43, li_45, li_46, li_47, li_48, li_53, li_57, li_59, li_60, li_61, li_62, li_63, li_80, li_81, li_91, li_93, li_97, li_100, li_122, li_200, li_255, li_256, li_257, li_258, li_259, li_260, li_300, li_314, li_400, li_580, li_999, li_5040, li_9999, li_65536, li_99999, li_7654321] <;> first | rfl | exact congrArg jn (by omega)) | exact congrArg jn (by omega))) (by omega) e5' (by rw [h6]) (by omega)
            · rw [if_neg y] at h6
              exact ih (i + 1) _ _ _ (by (first | rfl | (simp (disch := omega) only [jn_add, jn_sub, jn_mul, jn_neg, li_0, li_1, li_2, li_3, li_4, li_5, li_6, li_7, li_8, li_9, li_10, li_11, li_12, li_13, li_14, li_15, li_16, li_17, li_18, li_20, li_24, li_29, li_30, li_31, li_32, li_37, li_39, li_40, li_42, li_43, li_45, li_46, li_47, li_48, li_53, li_57, li_59, li_60, li_61, li_62, li_63, li_80, li_81, li_91, li_93, li_97, li_100, li_122, li_200, li_255, li_256, li_257, li_258, li_259, li_260, li_300, li_314, li_400, li_580, li_999, li_5040, li_9999, li_65536, li_99999, li_7654321] <;> first | rfl | exact congrArg jn (by omega)) | exact congrArg jn (by omega))) (by omega) e5' (by rw [h6]) (by omega)
          · have h6 := fr_s (P := rP (gnA l none g n a b)) (n := i)
            rw [if_neg (by rw [hr]; decide)] at h6
            exact ih (i + 1) _ _ _ (by (first | rfl | (simp (disch := omega) only [jn_add, jn_sub, jn_mul, jn_neg, li_0, li_1, li_2, li_3, li_4, li_5, li_6, li_7, li_8, li_9, li_10, li_11, li_12, li_13, li_14, li_15, li_16, li_17, li_18, li_20, li_24, li_29, li_30, li_31, li_32, li_37, li_39, li_40, li_42, li_43, li_45, li_46, li_47, li_48, li_53, li_57, li_59, li_60, li_61, li_62, li_63, li_80, li_81, li_91, li_93, li_97, li_100, li_122, li_200, li_255, li_256, li_257, li_258, li_259, li_260, li_300, li_314, li_400, li_580, li_999, li_5040, li_9999, li_65536, li_99999, li_7654321] <;> first | rfl | exact congrArg jn (by omega)) | exact congrArg jn (by omega))) (by omega) (by rw [e5, hc5 _ hr, if_neg (by decide), Nat.add_zero]) (by rw [h6]; exact e6) (by omega)
    exact key N 0 _ _ _ rfl (by omega) rfl rfl (by omega)
  · exact h0 (fun a' b' n hq => by have := qb a' b' n hq; omega) _ _ _ _ _ _
theorem wl_isRest_R {len : Nat} {t : Nat} {Q : Int32 → Prop} {x : Int32} (hN : 10 ≤ N) (hG : ∀ i, i < 32 → ga i = G i) (ht : t < 16) (hx : x = jn (t : Int)) (h1 : rP G t = true → Q 1) (h0 : rP G t = false → Q 0) : wp_X11_isRest_R N ga len Q x := by
  subst hx
  unfold wp_X11_isRest_R
  refine ⟨by decide, fun x1 e1 => ⟨by decide, fun x2 e2 => ?_⟩⟩
  rw [jn_d4 ht] at e1
  rw [jn_r4 ht] at e2
  subst e1 e2
  have key : ∀ (k i : Nat) (v4 : Int32), v4 = jn (i : Int) → i ≤ 4 → (∀ q, q < i → ¬ G (2 * t) < G (2 * (4 * q + t % 4)) ∧ G (2 * (4 * (t / 4) + q) + 1) ≤ G (2 * t + 1)) → 4 < k + i → wp_X11_isRest_R_11 N ga len Q k (jn (t : Int)) (jn ((t / 4 : Nat) : Int)) (jn ((t % 4 : Nat) : Int)) v4 := by
    intro k
    induction k with
    | zero => intro i v4 _ h1 _ h2; omega
    | succ k ih =>
      intro i v4 e hi ha hk
      subst e
      unfold wp_X11_isRest_R_11 wp_X11_isRest_R_69
      rw [show (2 : Int32) * ((4 : Int32) * jn (i : Int) + jn ((t % 4 : Nat) : Int)) = jn ((2 * (4 * i + t % 4) : Nat) : Int) from by (first | rfl | (simp (disch := omega) only [jn_add, jn_sub, jn_mul, jn_neg, li_0, li_1, li_2, li_3, li_4, li_5, li_6, li_7, li_8, li_9, li_10, li_11, li_12, li_13, li_14, li_15, li_16, li_17, li_18, li_20, li_24, li_29, li_30, li_31, li_32, li_37, li_39, li_40, li_42, li_43, li_45, li_46, li_47, li_48, li_53, li_57, li_59, li_60, li_61, li_62, li_63, li_80, li_81, li_91, li_93, li_97, li_100, li_122, li_200, li_255, li_256, li_257, li_258, li_259, li_260, li_300, li_314, li_400, li_580, li_999, li_5040, li_9999, li_65536, li_99999, li_7654321] <;> first | rfl | exact congrArg jn (by omega)) | exact congrArg jn (by omega)), show (2 : Int32) * jn (t : Int) = jn ((2 * t : Nat) : Int) from by (first | rfl | (simp (disch := omega) only [jn_add, jn_sub, jn_mul, jn_neg, li_0, li_1, li_2, li_3, li_4, li_5, li_6, li_7, li_8, li_9, li_10, li_11, li_12, li_13, li_14, li_15, li_16, li_17, li_18, li_20, li_24, li_29, li_30, li_31, li_32, li_37, li_39, li_40, li_42, li_43, li_45, li_46, li_47, li_48, li_53, li_57, li_59, li_60, li_61, li_62, li_63, li_80, li_81, li_91, li_93, li_97, li_100, li_122, li_200, li_255, li_256, li_257, li_258, li_259, li_260, li_300, li_314, li_400, li_580, li_999, li_5040, li_9999, li_65536, li_99999, li_7654321] <;> first | rfl | exact congrArg jn (by omega)) | exact congrArg jn (by omega)), show (2 : Int32) * ((4 : Int32) * jn ((t / 4 : Nat) : Int) + jn (i : Int)) + 1 = jn ((2 * (4 * (t / 4) + i) + 1 : Nat) : Int) from by (first | rfl | (simp (disch := omega) only [jn_add, jn_sub, jn_mul, jn_neg, li_0, li_1, li_2, li_3, li_4, li_5, li_6, li_7, li_8, li_9, li_10, li_11, li_12, li_13, li_14, li_15, li_16, li_17, li_18, li_20, li_24, li_29, li_30, li_31, li_32, li_37, li_39, li_40, li_42, li_43, li_45, li_46, li_47, li_48, li_53, li_57, li_59, li_60, li_61, li_62, li_63, li_80, li_81, li_91, li_93, li_97, li_100, li_122, li_200, li_255, li_256, li_257, li_258, li_259, li_260, li_300, li_314, li_400, li_580, li_999, li_5040, li_9999, li_65536, li_99999, li_7654321] <;> first | rfl | exact congrArg jn (by omega)) | exact congrArg jn (by omega)), show jn ((2 * t : Nat) : Int) + 1 = jn ((2 * t + 1 : Nat) : Int) from by (first | rfl | (simp (disch := omega) only [jn_add, jn_sub, jn_mul, jn_neg, li_0, li_1, li_2, li_3, li_4, li_5, li_6, li_7, li_8, li_9, li_10, li_11, li_12, li_13, li_14, li_15, li_16, li_17, li_18, li_20, li_24, li_29, li_30, li_31, li_32, li_37, li_39, li_40, li_42, li_43, li_45, li_46, li_47, li_48, li_53, li_57, li_59, li_60, li_61, li_62, li_63, li_80, li_81, li_91, li_93, li_97, li_100, li_122, li_200, li_255, li_256, li_257, li_258, li_259, li_260, li_300, li_314, li_400, li_580, li_999, li_5040, li_9999, li_65536, li_99999, li_7654321] <;> first | rfl | exact congrArg jn (by omega)) | exact congrArg jn (by omega))]
      rw [jn_cln (by omega), jn_cln (by omega), jn_cln (by omega), jn_cln (by omega)]
      rw [show ((4 : Int32) ≤ jn (i : Int)) = (4 ≤ i) from by rw [li_4, jn_le (by omega) (by omega)]; exact propext ⟨fun q => by omega, fun q => by omega⟩]
      refine ⟨fun z => h1 (rP_t (fun q hq => ha q (by omega))), fun z => ⟨by simp (disch := omega) only [jn_le, jn_lt, jn_eq, jn_in, jn_add, jn_sub, jn_mul, jn_neg, li_0, li_1, li_2, li_3, li_4, li_5, li_6, li_7, li_8, li_9, li_10, li_11, li_12, li_13, li_14, li_15, li_16, li_17, li_18, li_20, li_24, li_29, li_30, li_31, li_32, li_37, li_39, li_40, li_42, li_43, li_45, li_46, li_47, li_48, li_53, li_57, li_59, li_60, li_61, li_62, li_63, li_80, li_81, li_91, li_93, li_97, li_100, li_122, li_200, li_255, li_256, li_257, li_258, li_259, li_260, li_300, li_314, li_400, li_580, li_999, li_5040, li_9999, li_65536, li_99999, li_7654321] <;> omega, by simp (disch := omega) only [jn_le, jn_lt, jn_eq, jn_in, jn_add, jn_sub, jn_mul, jn_neg, li_0, li_1, li_2, li_3, li_4, li_5, li_6, li_7, li_8, li_9, li_10, li_11, li_12, li_13, li_14, li_15, li_16, li_17, li_18, li_20, li_24, li_29, li_30, li_31, li_32, li_37, li_39, li_40, li_42, li_43, li_45, li_46, li_47, li_48, li_53, li_57, li_59, li_60, li_61, li_62, li_63, li_80, li_81, li_91, li_93, li_97, li_100, li_122, li_200, li_255, li_256, li_257, li_258, li_259, li_260, li_300, li_314, li_400, li_580, li_999, li_5040, li_9999, li_65536, li_99999, li_7654321] <;> omega, fun y => ?_, fun y => ⟨by simp (disch := omega) only [jn_le, jn_lt, jn_eq, jn_in, jn_add, jn_sub, jn_mul, jn_neg, li_0, li_1, li_2, li_3, li_4, li_5, li_6, li_7, li_8, li_9, li_10, li_11, li_12, li_13, li_14, li_15, li_16, li_17, li_18, li_20, li_24, li_29, li_30, li_31, li_32, li_37, li_39, li_40, li_42, li_43, li_45, li_46, li_47, li_48, li_53, li_57, li_59, li_60, li_61, li_62, li_63, li_80, li_81, li_91, li_93, li_97, li_100, li_122, li_200, li_255, li_256, li_257, li_258, li_259, li_260, li_300, li_314, li_400, li_580, li_999, li_5040, li_9999, li_65536, li_99999, li_7654321] <;> omega, by simp (disch := omega) only [jn_le, jn_lt, jn_eq, jn_in, jn_add, jn_sub, jn_mul, jn_neg, li_0, li_1, li_2, li_3, li_4, li_5, li_6, li_7, li_8, li_9, li_10, li_11, li_12, li_13, li_14, li_15, li_16, li_17, li_18, li_20, li_24, li_29, li_30, li_31, li_32, li_37, li_39, li_40, li_42, li_43, li_45, li_46, li_47, li_48, li_53, li_57, li_59, li_60, li_61, li_62, li_63, li_80, li_81, li_91, li_93, li_97, li_100, li_122, li_200, li_255, li_256, li_257, li_258, li_259, li_260, li_300, li_314, li_400, li_580, li_999, li_5040, li_9999, li_65536, li_99999, li_7654321] <;> omega, fun u => ?_, fun u => ?_⟩⟩⟩
      · rw [hG _ (by omega), hG _ (by omega)] at y
        exact h0 (rP_f (by omega) (Or.inl y))
      · rw [hG _ (by omega), hG _ (by omega)] at y u
        refine ih (i + 1) _ (by (first | rfl | (simp (disch := omega) only [jn_add, jn_sub, jn_mul, jn_neg, li_0, li_1, li_2, li_3, li_4, li_5, li_6, li_7, li_8, li_9, li_10, li_11, li_12, li_13, li_14, li_15, li_16, li_17, li_18, li_20, li_24, li_29, li_30, li_31, li_32, li_37, li_39, li_40, li_42, li_43, li_45, li_46, li_47, li_48, li_53, li_57, li_59, li_60, li_61, li_62, li_63, li_80, li_81, li_91, li_93, li_97, li_100, li_122, li_200, li_255, li_256, li_257, li_258, li_259, li_260, li_300, li_314, li_400, li_580, li_999, li_5040, li_9999, li_65536, li_99999, li_7654321] <;> first | rfl | exact congrArg jn (by omega)) | exact congrArg jn (by omega))) (by omega) (fun q hq => ?_) (by omega)
        by_cases e : q = i
        · subst e; exact ⟨y, u⟩
        · exact ha q (by omega)
      · rw [hG _ (by omega), hG _ (by omega)] at u
        exact h0 (rP_f (by omega) (Or.inr u))
  exact key N 0 _ rfl (by omega) (fun q hq => by omega) (by omega)
theorem wl_gain_R {len : Nat} {f : (Nat → Int64) → Int64} {t c : Nat} {Q : Int32 → Prop} {x : Int32} (hN : 10 ≤ N) (hl : LOk l) (hg : GOk (l_k l) g) (hG : ar (l_k l) lp (g_p g)) (ht : t < 16) (hO : ar (l_k l) od' (g_o (tI l (some f) n (rsG g a b t)))) (hP : ar (l_k l) lp' (g_p (tI l (some f) n (rsG g a b t)))) (hc : c < l_k l) (hx : x = jn (c : Int)) (h : Q (gnV l (some f) g n a b t c)) : wp_X11_gainOf_R N (jn (l_k l)) lp od' lp' len Q x := by
  have hk := hl.2.2.1
  have hgt := tI_ok (r := (some f)) hl (n := n) (rsG_ok (a := a) (b := b) ht hg)
  have hp : plc l (tI l (some f) n (rsG g a b t)) c < l_k l := iv_lt hgt.1 hc
  subst hx
  unfold wp_X11_gainOf_R
  rw [jn_cln (by omega), hP c hc, hG c hc]
  refine ⟨by simp (disch := omega) only [jn_le, jn_lt, jn_eq, jn_in, jn_add, jn_sub, jn_mul, jn_neg, li_0, li_1, li_2, li_3, li_4, li_5, li_6, li_7, li_8, li_9, li_10, li_11, li_12, li_13, li_14, li_15, li_16, li_17, li_18, li_20, li_24, li_29, li_30, li_31, li_32, li_37, li_39, li_40, li_42, li_43, li_45, li_46, li_47, li_48, li_53, li_57, li_59, li_60, li_61, li_62, li_63, li_80, li_81, li_91, li_93, li_97, li_100, li_122, li_200, li_255, li_256, li_257, li_258, li_259, li_260, li_300, li_314, li_400, li_580, li_999, li_5040, li_9999, li_65536, li_99999, li_7654321] <;> omega, by simp (disch := omega) only [jn_le, jn_lt, jn_eq, jn_in, jn_add, jn_sub, jn_mul, jn_neg, li_0, li_1, li_2, li_3, li_4, li_5, li_6, li_7, li_8, li_9, li_10, li_11, li_12, li_13, li_14, li_15, li_16, li_17, li_18, li_20, li_24, li_29, li_30, li_31, li_32, li_37, li_39, li_40, li_42, li_43, li_45, li_46, li_47, li_48, li_53, li_57, li_59, li_60, li_61, li_62, li_63, li_80, li_81, li_91, li_93, li_97, li_100, li_122, li_200, li_255, li_256, li_257, li_258, li_259, li_260, li_300, li_314, li_400, li_580, li_999, li_5040, li_9999, li_65536, li_99999, li_7654321] <;> omega, wl_placeOf hk hN hO hgt.1 hp (by rw [show g_o (tI l (some f) n (rsG g a b t)) (plc l (tI l (some f) n (rsG g a b t)) c) = c from iv_at hgt.1 hc]) ?_⟩
  rw [li_2, jn_sub, jn_mul, jn_sub]
  exact h
theorem wl_gather_R {f : (Nat → Int64) → Int64} {code : Nat → Int32} {len : Nat} {u pl : Nat → Int64} {Q : (Nat → Int64) → (Nat → Int64) → Int32 → (Nat → Int32) → (Nat → Int32) → (Nat → Int32) → (Nat → Int32) → (Nat → Int32) → Prop} {x y z : Int32} (hN : 500 ≤ N) (hF : ∀ K : Prop, K → wp_X11_ruleInForce_R N rm rl inf K) (hl : LOk l) (hg : GOk (l_k l) g) (hG : cG (l_k l) tn od bk br lp g) (hL : ar (l_k l) lv (l_l l)) (hT : ar (l_k l) lr (l_r l)) (ht : g_t g < 10000) (hf : ROk (some f)) (hR : cR N code len f) (ha : a < l_k l) (hb : b < l_k l) (hn : n ≤ 20) (hx : x = jn (a : Int)) (hy : y = jn (b : Int)) (hz : z = jn (n : Int))
    (h1 : ∀ u pl t o b' r p ga, (∀ i, i < 32 → ga i = gnA l (some f) g n a b i) → Q u pl t o b' r p ga) : wp_X11_gatherGains_R N rm rl (jn (l_s l)) (jn (l_k l)) lv lr tn od bk br lp inf code len Q x y z u pl tn' od' bk' br' lp' ga := by
  have hk := hl.2.2.1
  unfold wp_X11_gatherGains_R
  subst hx hy hz
  have key : ∀ (k t : Nat) (v4 tn' : Int32) (u pl : Nat → Int64) (od' bk' br' lp' ga : Nat → Int32), v4 = jn (t : Int) → t ≤ 16 → (∀ i, i < 2 * t → ga i = gnA l (some f) g n a b i) → 16 < k + t → wp_X11_gatherGains_R_3 N rm rl (jn (l_s l)) (jn (l_k l)) lv lr tn od bk br lp inf code len Q k (jn (a : Int)) (jn (b : Int)) (jn (n : Int)) v4 u pl tn' od' bk' br' lp' ga := by
    intro k
    induction k with
    | zero => intro t v4 tn' u pl od' bk' br' lp' ga _ h1 _ h2; omega
    | succ k ih =>
      intro t v4 tn' u pl od' bk' br' lp' ga e hi hga hk'
      subst e
      unfold wp_X11_gatherGains_R_3 wp_X11_restBack
      rw [li_16, jn_le (by omega) (by omega)]
      refine ⟨fun q => h1 _ _ _ _ _ _ _ _ (fun i hi => hga i (by omega)), fun q => ?_⟩
      have ht16 : t < 16 := by omega
      rw [jn_r4 ht16, jn_d4 ht16]
      refine wl_takeG (fun o b' r p e1 e2 e3 e4 => ?_)
      have hG1 := cG_of hk hG e1 e2 e3 e4
      refine ⟨by decide, by simp (disch := omega) only [jn_le, jn_lt, jn_eq, jn_in, jn_add, jn_sub, jn_mul, jn_neg, li_0, li_1, li_2, li_3, li_4, li_5, li_6, li_7, li_8, li_9, li_10, li_11, li_12, li_13, li_14, li_15, li_16, li_17, li_18, li_20, li_24, li_29, li_30, li_31, li_32, li_37, li_39, li_40, li_42, li_43, li_45, li_46, li_47, li_48, li_53, li_57, li_59, li_60, li_61, li_62, li_63, li_80, li_81, li_91, li_93, li_97, li_100, li_122, li_200, li_255, li_256, li_257, li_258, li_259, li_260, li_300, li_314, li_400, li_580, li_999, li_5040, li_9999, li_65536, li_99999, li_7654321] <;> omega, fun a7 e7 => ⟨by decide, by simp (disch := omega) only [jn_le, jn_lt, jn_eq, jn_in, jn_add, jn_sub, jn_mul, jn_neg, li_0, li_1, li_2, li_3, li_4, li_5, li_6, li_7, li_8, li_9, li_10, li_11, li_12, li_13, li_14, li_15, li_16, li_17, li_18, li_20, li_24, li_29, li_30, li_31, li_32, li_37, li_39, li_40, li_42, li_43, li_45, li_46, li_47, li_48, li_53, li_57, li_59, li_60, li_61, li_62, li_63, li_80, li_81, li_91, li_93, li_97, li_100, li_122, li_200, li_255, li_256, li_257, li_258, li_259, li_260, li_300, li_314, li_400, li_580, li_999, li_5040, li_9999, li_65536, li_99999, li_7654321] <;> omega, fun a9 e9 => ?_⟩⟩
      rw [jn_cln (by omega), show (5 : Int32) * (jn ((t / 4 : Nat) : Int) + 1) = jn ((5 * (t / 4 + 1) : Nat) : Int) from by (first | rfl | (simp (disch := omega) only [jn_add, jn_sub, jn_mul, jn_neg, li_0, li_1, li_2, li_3, li_4, li_5, li_6, li_7, li_8, li_9, li_10, li_11, li_12, li_13, li_14, li_15, li_16, li_17, li_18, li_20, li_24, li_29, li_30, li_31, li_32, li_37, li_39, li_40, li_42, li_43, li_45, li_46, li_47, li_48, li_53, li_57, li_59, li_60, li_61, li_62, li_63, li_80, li_81, li_91, li_93, li_97, li_100, li_122, li_200, li_255, li_256, li_257, li_258, li_259, li_260, li_300, li_314, li_400, li_580, li_999, li_5040, li_9999, li_65536, li_99999, li_7654321] <;> first | rfl | exact congrArg jn (by omega)) | exact congrArg jn (by omega))] at e7
      rw [jn_cln (by omega), show (5 : Int32) * (jn ((t % 4 : Nat) : Int) + 1) = jn ((5 * (t % 4 + 1) : Nat) : Int) from by (first | rfl | (simp (disch := omega) only [jn_add, jn_sub, jn_mul, jn_neg, li_0, li_1, li_2, li_3, li_4, li_5, li_6, li_7, li_8, li_9, li_10, li_11, li_12, li_13, li_14, li_15, li_16, li_17, li_18, li_20, li_24, li_29, li_30, li_31, li_32, li_37, li_39, li_40, li_42, li_43, li_45, li_46, li_47, li_48, li_53, li_57, li_59, li_60, li_61, li_62, li_63, li_80, li_81, li_91, li_93, li_97, li_100, li_122, li_200, li_255, li_256, li_257, li_258, li_259, li_260, li_300, li_314, li_400, li_580, li_999, li_5040, li_9999, li_65536, li_99999, li_7654321] <;> first | rfl | exact congrArg jn (by omega)) | exact congrArg jn (by omega))] at e9
      have hB : ar (l_k l) a9 (g_b (rsG g a b t)) := by
        rw [e9]
        refine ar_upd ?_ rfl
        rw [e7]
        exact ar_upd hG1.2.2.1 rfl
      have hG2 : cG (l_k l) tn o a9 r p (rsG g a b t) := ⟨hG1.1, hG1.2.1, hB, hG1.2.2.2.1, hG1.2.2.2.2⟩
      refine wl_po_R hN (by omega) rfl hF hl (rsG_ok ht16 hg) hG2 hL hT (show g_t g + n < 1000000 by omega) hf hR (fun u pl t2 o2 r2 p2 a1 => ?_)
      refine wl_gain_R (by omega) hl hg hG.2.2.2.2 ht16 a1.2.1 a1.2.2.2.2 ha rfl ?_
      rw [show (2 : Int32) * jn (t : Int) = jn ((2 * t : Nat) : Int) from by (first | rfl | (simp (disch := omega) only [jn_add, jn_sub, jn_mul, jn_neg, li_0, li_1, li_2, li_3, li_4, li_5, li_6, li_7, li_8, li_9, li_10, li_11, li_12, li_13, li_14, li_15, li_16, li_17, li_18, li_20, li_24, li_29, li_30, li_31, li_32, li_37, li_39, li_40, li_42, li_43, li_45, li_46, li_47, li_48, li_53, li_57, li_59, li_60, li_61, li_62, li_63, li_80, li_81, li_91, li_93, li_97, li_100, li_122, li_200, li_255, li_256, li_257, li_258, li_259, li_260, li_300, li_314, li_400, li_580, li_999, li_5040, li_9999, li_65536, li_99999, li_7654321] <;> first | rfl | exact congrArg jn (by omega)) | exact congrArg jn (by omega)), show jn ((2 * t : Nat) : Int) + 1 = jn ((2 * t + 1 : Nat) : Int) from by (first | rfl | (simp (disch := omega) only [jn_add, jn_sub, jn_mul, jn_neg, li_0, li_1, li_2, li_3, li_4, li_5, li_6, li_7, li_8, li_9, li_10, li_11, li_12, li_13, li_14, li_15, li_16, li_17, li_18, li_20, li_24, li_29, li_30, li_31, li_32, li_37, li_39, li_40, li_42, li_43, li_45, li_46, li_47, li_48, li_53, li_57, li_59, li_60, li_61, li_62, li_63, li_80, li_81, li_91, li_93, li_97, li_100, li_122, li_200, li_255, li_256, li_257, li_258, li_259, li_260, li_300, li_314, li_400, li_580, li_999, li_5040, li_9999, li_65536, li_99999, li_7654321] <;> first | rfl | exact congrArg jn (by omega)) | exact congrArg jn (by omega)), jn_cln (by omega), jn_cln (by omega)]
      refine ⟨by simp (disch := omega) only [jn_le, jn_lt, jn_eq, jn_in, jn_add, jn_sub, jn_mul, jn_neg, li_0, li_1, li_2, li_3, li_4, li_5, li_6, li_7, li_8, li_9, li_10, li_11, li_12, li_13, li_14, li_15, li_16, li_17, li_18, li_20, li_24, li_29, li_30, li_31, li_32, li_37, li_39, li_40, li_42, li_43, li_45, li_46, li_47, li_48, li_53, li_57, li_59, li_60, li_61, li_62, li_63, li_80, li_81, li_91, li_93, li_97, li_100, li_122, li_200, li_255, li_256, li_257, li_258, li_259, li_260, li_300, li_314, li_400, li_580, li_999, li_5040, li_9999, li_65536, li_99999, li_7654321] <;> omega, fun a15 e15 => ?_⟩
      refine wl_gain_R (by omega) hl hg hG.2.2.2.2 ht16 a1.2.1 a1.2.2.2.2 hb rfl ?_
      refine ⟨by simp (disch := omega) only [jn_le, jn_lt, jn_eq, jn_in, jn_add, jn_sub, jn_mul, jn_neg, li_0, li_1, li_2, li_3, li_4, li_5, li_6, li_7, li_8, li_9, li_10, li_11, li_12, li_13, li_14, li_15, li_16, li_17, li_18, li_20, li_24, li_29, li_30, li_31, li_32, li_37, li_39, li_40, li_42, li_43, li_45, li_46, li_47, li_48, li_53, li_57, li_59, li_60, li_61, li_62, li_63, li_80, li_81, li_91, li_93, li_97, li_100, li_122, li_200, li_255, li_256, li_257, li_258, li_259, li_260, li_300, li_314, li_400, li_580, li_999, li_5040, li_9999, li_65536, li_99999, li_7654321] <;> omega, fun a17 e17 => ?_⟩
      refine ih (t + 1) _ _ _ _ _ _ _ _ _ (by (first | rfl | (simp (disch := omega) only [jn_add, jn_sub, jn_mul, jn_neg, li_0, li_1, li_2, li_3, li_4, li_5, li_6, li_7, li_8, li_9, li_10, li_11, li_12, li_13, li_14, li_15, li_16, li_17, li_18, li_20, li_24, li_29, li_30, li_31, li_32, li_37, li_39, li_40, li_42, li_43, li_45, li_46, li_47, li_48, li_53, li_57, li_59, li_60, li_61, li_62, li_63, li_80, li_81, li_91, li_93, li_97, li_100, li_122, li_200, li_255, li_256, li_257, li_258, li_259, li_260, li_300, li_314, li_400, li_580, li_999, li_5040, li_9999, li_65536, li_99999, li_7654321] <;> first | rfl | exact congrArg jn (by omega)) | exact congrArg jn (by omega))) (by omega) (fun i hi2 => ?_) (by omega)
      by_cases q1 : i = 2 * t + 1
      · rw [e17, q1, upd_at]
        unfold gnA
        rw [if_neg (by omega), show (2 * t + 1) / 2 = t by omega]
      · rw [e17, upd_ne q1, e15]
        by_cases q2 : i = 2 * t
        · rw [q2, upd_at]
          unfold gnA
          rw [if_pos (by omega), show (2 * t) / 2 = t by omega]
        · rw [upd_ne q2]; exact hga i (by omega)
  exact key N 0 _ _ _ _ _ _ _ _ _ rfl (by omega) (fun i hi => by omega) (by omega)
theorem wl_rests_R {f : (Nat → Int64) → Int64} {code : Nat → Int32} {len : Nat} {u pl : Nat → Int64} {Q : Int32 → (Nat → Int64) → (Nat → Int64) → Int32 → (Nat → Int32) → (Nat → Int32) → (Nat → Int32) → (Nat → Int32) → (Nat → Int32) → Prop} {x y z w : Int32} (hN : 500 ≤ N) (hF : ∀ K : Prop, K → wp_X11_ruleInForce_R N rm rl inf K) (hl : LOk l) (hg : GOk (l_k l) g) (hG : cG (l_k l) tn od bk br lp g) (hL : ar (l_k l) lv (l_l l)) (hT : ar (l_k l) lr (l_r l)) (ht : g_t g < 10000) (hf : ROk (some f)) (hR : cR N code len f)
    (h0 : (∀ a b n, ¬ qRs l x y z w a b n) → ∀ u pl t o b' r p ga, Q (-1) u pl t o b' r p ga) (h1 : ∀ a b n, qRs l x y z w a b n → ∀ u pl t o b' r p ga, Q (aRs (rP (gnA l (some f) g n a b)) w) u pl t o b' r p ga) : wp_X11_rests_R N rm rl (jn (l_s l)) (jn (l_k l)) lv lr tn od bk br lp inf code len Q x y z w u pl tn' od' bk' br' lp' ga := by
  have hk := hl.2.2.1
  obtain ⟨e, rfl, he⟩ := jn_of z
  obtain ⟨d, rfl, hd⟩ := jn_of w
  have qb : ∀ a b n, qRs l x y (jn e) (jn d) a b n → asC (l_k l) x = some a ∧ asC (l_k l) y = some b ∧ a ≠ b ∧ e = n ∧ 1 ≤ n ∧ n ≤ 20 ∧ 0 ≤ d ∧ d ≤ 2 := by
    rintro a b n ⟨q1, q2, q3, q4, q5, q6, q7⟩
    rw [jn_eq he (by omega)] at q4
    rw [li_0, li_1, li_2, jn_eq hd (by omega), jn_eq hd (by omega), jn_eq hd (by omega)] at q7
    exact ⟨q1, q2, q3, q4, q5, q6, by omega, by omega⟩
  unfold wp_X11_rests_R wp_X11_rests_R_43
  refine wl_isCh_R hk (fun hno => ⟨fun _ => h0 (fun a b n hq => by have := (qb a b n hq).1; rw [hno] at this; cases this) _ _ _ _ _ _ _ _, fun q => absurd rfl q⟩) (fun a hc hs hx => ⟨fun q => absurd q (by decide), fun _ => ?_⟩)
  refine wl_isCh_R hk (fun hno => ⟨fun _ => h0 (fun a b n hq => by have := (qb a b n hq).2.1; rw [hno] at this; cases this) _ _ _ _ _ _ _ _, fun q => absurd rfl q⟩) (fun b hcb hsb hxb => ⟨fun q => absurd q (by decide), fun _ => ?_⟩)
  rw [hx, hxb, jn_eq (by omega) (by omega), li_1, li_20, li_0, li_2, jn_lt he (by omega), jn_lt (by omega) he, jn_lt hd (by omega), jn_le hd (by omega), ← li_0]
  refine ⟨fun z => h0 (fun a' b' n hq => ?_) _ _ _ _ _ _ _ _, fun z => ⟨fun z1 => ?_, fun z1 => ⟨fun z2 => ?_, fun z2 => ⟨fun z3 => ?_, fun z3 => ⟨fun z4 => ?_, fun z4 => ?_⟩⟩⟩⟩⟩
  · have := qb a' b' n hq
    rw [hs, hsb] at this
    obtain ⟨q1, q2, q3, -⟩ := this
    cases q1; cases q2
    exact q3 (by omega)
  · exact h0 (fun a' b' n hq => by have := qb a' b' n hq; omega) _ _ _ _ _ _ _ _
  · exact h0 (fun a' b' n hq => by have := qb a' b' n hq; omega) _ _ _ _ _ _ _ _
  · exact h0 (fun a' b' n hq => by have := qb a' b' n hq; omega) _ _ _ _ _ _ _ _
  · obtain ⟨n, rfl⟩ : ∃ n : Nat, e = n := ⟨e.toNat, by omega⟩
    have hQ := h1 a b n ⟨hs, hsb, by omega, rfl, by omega, by omega, by rw [li_0, li_1, li_2, jn_eq hd (by omega), jn_eq hd (by omega), jn_eq hd (by omega)]; omega⟩
    refine wl_gather_R hN hF hl hg hG hL hT ht hf hR hc hcb (by omega) rfl rfl rfl (fun u pl t o b' r p ga hga => ?_)
    have key : ∀ (k i : Nat) (v5 v6 v7 : Int32), v7 = jn (i : Int) → i ≤ 16 → v5 = jn (cnt (rP (gnA l (some f) g n a b)) i : Int) → v6 = jn (fr (rP (gnA l (some f) g n a b)) i) → 16 < k + i → wp_X11_rests_R_61 N rm rl (jn (l_s l)) (jn (l_k l)) lv lr tn od bk br lp inf code len Q k (jn d) v5 v6 v7 u pl t o b' r p ga := by
      intro k
      induction k with
      | zero => intro i v5 v6 v7 _ h1 _ _ h2; omega
      | succ k ih =>
        intro i v5 v6 v7 e7 hi e5 e6 hk'
        subst e7
        have hfb := fr_b (P := rP (gnA l (some f) g n a b)) (n := i)
        unfold wp_X11_rests_R_61 wp_X11_rests_R_141 wp_X11_rests_R_95 wp_X11_rests_R_93 wp_X11_restBack
        rw [show ((16 : Int32) ≤ jn (i : Int)) = (16 ≤ i) from by rw [li_16, jn_le (by omega) (by omega)]; exact propext ⟨fun q => by omega, fun q => by omega⟩]
        refine ⟨fun z => ?_, fun z => ?_⟩
        · have e : i = 16 := by omega
          subst e
          unfold aRs at hQ
          refine ⟨fun y => ?_, fun y => ⟨fun y1 => ?_, fun y1 => ?_⟩⟩
          · rw [if_pos y] at hQ; rw [e5]; exact hQ _ _ _ _ _ _ _ _
          · rw [e6, show (-1 : Int32) = jn (-1) from rfl, jn_eq (by omega) (by omega)] at y1
            rw [if_neg y, if_pos y1] at hQ
            exact hQ _ _ _ _ _ _ _ _
          · rw [e6, show (-1 : Int32) = jn (-1) from rfl, jn_eq (by omega) (by omega)] at y1
            rw [if_neg y, if_neg y1] at hQ
            obtain ⟨fi, hfi⟩ : ∃ fi : Nat, fr (rP (gnA l (some f) g n a b)) 16 = fi := ⟨(fr (rP (gnA l (some f) g n a b)) 16).toNat, by omega⟩
            rw [hfi] at hQ e6 hfb
            subst e6
            refine ⟨fun y2 => ⟨by decide, ?_⟩, fun y2 => ⟨by decide, ?_⟩⟩
            · rw [if_pos y2] at hQ
              rw [jn_d4 (by omega), show (5 : Int32) * (jn ((fi / 4 : Nat) : Int) + 1) = jn (5 * ((fi : Int) / 4 + 1)) from by (first | rfl | (simp (disch := omega) only [jn_add, jn_sub, jn_mul, jn_neg, li_0, li_1, li_2, li_3, li_4, li_5, li_6, li_7, li_8, li_9, li_10, li_11, li_12, li_13, li_14, li_15, li_16, li_17, li_18, li_20, li_24, li_29, li_30, li_31, li_32, li_37, li_39, li_40, li_42, li_43, li_45, li_46, li_47, li_48, li_53, li_57, li_59, li_60, li_61, li_62, li_63, li_80, li_81, li_91, li_93, li_97, li_100, li_122, li_200, li_255, li_256, li_257, li_258, li_259, li_260, li_300, li_314, li_400, li_580, li_999, li_5040, li_9999, li_65536, li_99999, li_7654321] <;> first | rfl | exact congrArg jn (by omega)) | exact congrArg jn (by omega))]
              exact hQ _ _ _ _ _ _ _ _
            · rw [if_neg y2] at hQ
              rw [jn_r4 (by omega), show (5 : Int32) * (jn ((fi % 4 : Nat) : Int) + 1) = jn (5 * ((fi : Int) % 4 + 1)) from by (first | rfl | (simp (disch := omega) only [jn_add, jn_sub, jn_mul, jn_neg, li_0, li_1, li_2, li_3, li_4, li_5, li_6, li_7, li_8, li_9, li_10, li_11, li_12, li_13, li_14, li_15, li_16, li_17, li_18, li_20, li_24, li_29, li_30, li_31, li_32, li_37, li_39, li_40, li_42, li_43, li_45, li_46, li_47, li_48, li_53, li_57, li_59, li_60, li_61, li_62, li_63, li_80, li_81, li_91, li_93, li_97, li_100, li_122, li_200, li_255, li_256, li_257, li_258, li_259, li_260, li_300, li_314, li_400, li_580, li_999, li_5040, li_9999, li_65536, li_99999, li_7654321] <;> first | rfl | exact congrArg jn (by omega)) | exact congrArg jn (by omega))]
              exact hQ _ _ _ _ _ _ _ _
        · have hc5 : ∀ v, rP (gnA l (some f) g n a b) i = v → cnt (rP (gnA l (some f) g n a b)) (i + 1) = cnt (rP (gnA l (some f) g n a b)) i + (if v = true then 1 else 0) := fun v hv => by rw [← hv]; rfl
          refine wl_isRest_R (by omega) hga (show i < 16 by omega) rfl (fun hr => ⟨fun u => absurd u (by decide), fun _ => ?_⟩) (fun hr => ⟨fun _ => ?_, fun u => absurd rfl u⟩)
          · have e5' : v5 + 1 = jn (cnt (rP (gnA l (some f) g n a b)) (i + 1) : Int) := by rw [e5, hc5 _ hr, if_pos rfl]; exact by (first | rfl | (simp (disch := omega) only [jn_add, jn_sub, jn_mul, jn_neg, li_0, li_1, li_2, li_3, li_4, li_5, li_6, li_7, li_8, li_9, li_10, li_11, li_12, li_13, li_14, li_15, li_16, li_17, li_18, li_20, li_24, li_29, li_30, li_31, li_32, li_37, li_39, li_40, li_42, li_43, li_45, li_46, li_47, li_48, li_53, li_57, li_59, li_60, li_61, li_62, li_63, li_80, li_81, li_91, li_93, li_97, li_100, li_122, li_200, li_255, li_256, li_257, li_258, li_259, li_260, li_300, li_314, li_400, li_580, li_999, li_5040, li_9999, li_65536, li_99999, li_7654321] <;> first | rfl | exact congrArg jn (by omega)) | exact congrArg jn (by omega))
            have h6 := fr_s (P := rP (gnA l (some f) g n a b)) (n := i)
            rw [if_pos hr] at h6
            rw [e6, show (-1 : Int32) = jn (-1) from rfl, jn_eq (by omega) (by omega)]
            refine ⟨fun y => ?_, fun y => ?_⟩
            · rw [if_pos y] at h6
              exact ih (i + 1) _ _ _ (by (first | rfl | (simp (disch := omega) only [jn_add, jn_sub, jn_mul, jn_neg, li_0, li_1, li_2, li_3, li_4, li_5, li_6, li_7, li_8, li_9, li_10, li_11, li_12, li_13, li_14, li_15, li_16, li_17, li_18, li_20, li_24, li_29, li_30, li_31, li_32, li_37, li_39, li_40, li_42, li_43, li_45, li_46, li_47, li_48, li_53, li_57, li_59, li_60, li_61, li_62, li_63, li_80, li_81, li_91, li_93, li_97, li_100, li_122, li_200, li_255, li_256, li_257, li_258, li_259, li_260, li_300, li_314, li_400, li_580, li_999, li_5040, li_9999, li_65536, li_99999, li_7654321] <;> first | rfl | exact congrArg jn (by omega)) | exact congrArg jn (by omega))) (by omega) e5' (by rw [h6]) (by omega)
            · rw [if_neg y] at h6
              exact ih (i + 1) _ _ _ (by (first | rfl | (simp (disch := omega) only [jn_add, jn_sub, jn_mul, jn_neg, li_0, li_1, li_2, li_3, li_4, li_5, li_6, li_7, li_8, li_9, li_10, li_11, li_12, li_13, li_14, li_15, li_16, li_17, li_18, li_20, li_24, li_29, li_30, li_31, li_32, li_37, li_39, li_40, li_42, li_43, li_45, li_46, li_47, li_48, li_53, li_57, li_59, li_60, li_61, li_62, li_63, li_80, li_81, li_91, li_93, li_97, li_100, li_122, li_200, li_255, li_256, li_257, li_258, li_259, li_260, li_300, li_314, li_400, li_580, li_999, li_5040, li_9999, li_65536, li_99999, li_7654321] <;> first | rfl | exact congrArg jn (by omega)) | exact congrArg jn (by omega))) (by omega) e5' (by rw [h6]) (by omega)
          · have h6 := fr_s (P := rP (gnA l (some f) g n a b)) (n := i)
            rw [if_neg (by rw [hr]; decide)] at h6
            exact ih (i + 1) _ _ _ (by (first | rfl | (simp (disch := omega) only [jn_add, jn_sub, jn_mul, jn_neg, li_0, li_1, li_2, li_3, li_4, li_5, li_6, li_7, li_8, li_9, li_10, li_11, li_12, li_13, li_14, li_15, li_16, li_17, li_18, li_20, li_24, li_29, li_30, li_31, li_32, li_37, li_39, li_40, li_42, li_43, li_45, li_46, li_47, li_48, li_53, li_57, li_59, li_60, li_61, li_62, li_63, li_80, li_81, li_91, li_93, li_97, li_100, li_122, li_200, li_255, li_256, li_257, li_258, li_259, li_260, li_300, li_314, li_400, li_580, li_999, li_5040, li_9999, li_65536, li_99999, li_7654321] <;> first | rfl | exact congrArg jn (by omega)) | exact congrArg jn (by omega))) (by omega) (by rw [e5, hc5 _ hr, if_neg (by decide), Nat.add_zero]) (by rw [h6]; exact e6) (by omega)
    exact key N 0 _ _ _ rfl (by omega) rfl rfl (by omega)
  · exact h0 (fun a' b' n hq => by have := qb a' b' n hq; omega) _ _ _ _ _ _ _ _
end RST
